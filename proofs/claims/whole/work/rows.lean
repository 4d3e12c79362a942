section
-- ===== PART A: goes FIRST, ahead of the names: the tables' words, and 'selects' of the private methods out of them =====
/-- a private method of a class that the tables say can be made, by its rows of tables_1 -/
def lw_okq (q : MethodName × Nat) : Prop := (q.1.cls ≠ "java/lang/invoke/MethodHandle" ∧ q.1.cls ≠ "java/lang/invoke/VarHandle") ∧ Cond.instantiable q.1.cls q.2 ∈ tables_1 ∧ Cond.privateMethod q.1 ∈ tables_1 ∧ Cond.instanceMethod q.1 ∈ tables_1
theorem lw_p0 : lw_okq (⟨"MakingLimits$Text", "passes", "(C)Z"⟩, 3) := ⟨⟨by decide +kernel, by decide +kernel⟩, List.mem_of_getElem? (i := 27) (by decide +kernel), List.mem_of_getElem? (i := 179) (by decide +kernel), List.mem_of_getElem? (i := 180) (by decide +kernel)⟩
theorem lw_p1 : lw_okq (⟨"MakingLimits$Text", "next", "()I"⟩, 3) := ⟨⟨by decide +kernel, by decide +kernel⟩, List.mem_of_getElem? (i := 27) (by decide +kernel), List.mem_of_getElem? (i := 183) (by decide +kernel), List.mem_of_getElem? (i := 184) (by decide +kernel)⟩
theorem lw_p2 : lw_okq (⟨"MakingLimits$Text", "readGrade", "()LMakingLimits$Grade;"⟩, 3) := ⟨⟨by decide +kernel, by decide +kernel⟩, List.mem_of_getElem? (i := 27) (by decide +kernel), List.mem_of_getElem? (i := 209) (by decide +kernel), List.mem_of_getElem? (i := 210) (by decide +kernel)⟩
theorem lw_p3 : lw_okq (⟨"MakingLimits$Text", "readLimits", "(LMakingLimits$Grade;)Z"⟩, 3) := ⟨⟨by decide +kernel, by decide +kernel⟩, List.mem_of_getElem? (i := 27) (by decide +kernel), List.mem_of_getElem? (i := 240) (by decide +kernel), List.mem_of_getElem? (i := 241) (by decide +kernel)⟩
theorem lw_p4 : lw_okq (⟨"MakingLimits$Text", "readWhole", "()I"⟩, 3) := ⟨⟨by decide +kernel, by decide +kernel⟩, List.mem_of_getElem? (i := 27) (by decide +kernel), List.mem_of_getElem? (i := 244) (by decide +kernel), List.mem_of_getElem? (i := 245) (by decide +kernel)⟩
theorem lw_p5 : lw_okq (⟨"MakingLimits$Text", "readSteps", "(LMakingLimits$Grade;)Z"⟩, 3) := ⟨⟨by decide +kernel, by decide +kernel⟩, List.mem_of_getElem? (i := 27) (by decide +kernel), List.mem_of_getElem? (i := 253) (by decide +kernel), List.mem_of_getElem? (i := 254) (by decide +kernel)⟩
theorem lw_p6 : lw_okq (⟨"MakingLimits$Text", "readDays", "(LMakingLimits$Grade;)Z"⟩, 3) := ⟨⟨by decide +kernel, by decide +kernel⟩, List.mem_of_getElem? (i := 27) (by decide +kernel), List.mem_of_getElem? (i := 261) (by decide +kernel), List.mem_of_getElem? (i := 262) (by decide +kernel)⟩
theorem lw_p7 : lw_okq (⟨"MakingLimits", "keepOffer", "(ILMakingLimits$Offer;)V"⟩, 8) := ⟨⟨by decide +kernel, by decide +kernel⟩, List.mem_of_getElem? (i := 19) (by decide +kernel), List.mem_of_getElem? (i := 277) (by decide +kernel), List.mem_of_getElem? (i := 278) (by decide +kernel)⟩
theorem lw_p8 : lw_okq (⟨"java/lang/Throwable", "fillInStackTrace", "(I)Ljava/lang/Throwable;"⟩, 6) := ⟨⟨by decide +kernel, by decide +kernel⟩, List.mem_of_getElem? (i := 361) (by decide +kernel), List.mem_of_getElem? (i := 359) (by decide +kernel), List.mem_of_getElem? (i := 360) (by decide +kernel)⟩
theorem lw_p9 : lw_okq (⟨"MakingLimits", "gradeOf", "(II)LMakingLimits$Grade;"⟩, 8) := ⟨⟨by decide +kernel, by decide +kernel⟩, List.mem_of_getElem? (i := 19) (by decide +kernel), List.mem_of_getElem? (i := 438) (by decide +kernel), List.mem_of_getElem? (i := 439) (by decide +kernel)⟩
theorem lw_p10 : lw_okq (⟨"MakingLimits", "offerOf", "(I)LMakingLimits$Offer;"⟩, 8) := ⟨⟨by decide +kernel, by decide +kernel⟩, List.mem_of_getElem? (i := 19) (by decide +kernel), List.mem_of_getElem? (i := 442) (by decide +kernel), List.mem_of_getElem? (i := 443) (by decide +kernel)⟩
theorem lw_p11 : lw_okq (⟨"MakingLimits$Cells", "units", "(II)J"⟩, 2) := ⟨⟨by decide +kernel, by decide +kernel⟩, List.mem_of_getElem? (i := 122) (by decide +kernel), List.mem_of_getElem? (i := 543) (by decide +kernel), List.mem_of_getElem? (i := 544) (by decide +kernel)⟩
theorem lw_p12 : lw_okq (⟨"MakingLimitsModel", "empty", "()V"⟩, 24) := ⟨⟨by decide +kernel, by decide +kernel⟩, List.mem_of_getElem? (i := 627) (by decide +kernel), List.mem_of_getElem? (i := 633) (by decide +kernel), List.mem_of_getElem? (i := 634) (by decide +kernel)⟩
theorem lw_p13 : lw_okq (⟨"MakingLimitsModel", "expect", "(I)V"⟩, 24) := ⟨⟨by decide +kernel, by decide +kernel⟩, List.mem_of_getElem? (i := 627) (by decide +kernel), List.mem_of_getElem? (i := 726) (by decide +kernel), List.mem_of_getElem? (i := 727) (by decide +kernel)⟩
theorem lw_p14 : lw_okq (⟨"MakingLimitsModel", "now", "()I"⟩, 24) := ⟨⟨by decide +kernel, by decide +kernel⟩, List.mem_of_getElem? (i := 627) (by decide +kernel), List.mem_of_getElem? (i := 730) (by decide +kernel), List.mem_of_getElem? (i := 731) (by decide +kernel)⟩
theorem lw_p15 : lw_okq (⟨"MakingLimitsModel", "isDigit", "()Z"⟩, 24) := ⟨⟨by decide +kernel, by decide +kernel⟩, List.mem_of_getElem? (i := 627) (by decide +kernel), List.mem_of_getElem? (i := 734) (by decide +kernel), List.mem_of_getElem? (i := 735) (by decide +kernel)⟩
def lw_privs_1 : List (MethodName × Nat) := [(⟨"MakingLimits$Text", "passes", "(C)Z"⟩, 3), (⟨"MakingLimits$Text", "next", "()I"⟩, 3), (⟨"MakingLimits$Text", "readGrade", "()LMakingLimits$Grade;"⟩, 3), (⟨"MakingLimits$Text", "readLimits", "(LMakingLimits$Grade;)Z"⟩, 3), (⟨"MakingLimits$Text", "readWhole", "()I"⟩, 3), (⟨"MakingLimits$Text", "readSteps", "(LMakingLimits$Grade;)Z"⟩, 3), (⟨"MakingLimits$Text", "readDays", "(LMakingLimits$Grade;)Z"⟩, 3), (⟨"MakingLimits", "keepOffer", "(ILMakingLimits$Offer;)V"⟩, 8), (⟨"java/lang/Throwable", "fillInStackTrace", "(I)Ljava/lang/Throwable;"⟩, 6), (⟨"MakingLimits", "gradeOf", "(II)LMakingLimits$Grade;"⟩, 8), (⟨"MakingLimits", "offerOf", "(I)LMakingLimits$Offer;"⟩, 8), (⟨"MakingLimits$Cells", "units", "(II)J"⟩, 2), (⟨"MakingLimitsModel", "empty", "()V"⟩, 24), (⟨"MakingLimitsModel", "expect", "(I)V"⟩, 24), (⟨"MakingLimitsModel", "now", "()I"⟩, 24), (⟨"MakingLimitsModel", "isDigit", "()Z"⟩, 24)]
theorem lw_r1 : ∀ q ∈ lw_privs_1, lw_okq q := List.forall_mem_cons.mpr ⟨lw_p0, List.forall_mem_cons.mpr ⟨lw_p1, List.forall_mem_cons.mpr ⟨lw_p2, List.forall_mem_cons.mpr ⟨lw_p3, List.forall_mem_cons.mpr ⟨lw_p4, List.forall_mem_cons.mpr ⟨lw_p5, List.forall_mem_cons.mpr ⟨lw_p6, List.forall_mem_cons.mpr ⟨lw_p7, List.forall_mem_cons.mpr ⟨lw_p8, List.forall_mem_cons.mpr ⟨lw_p9, List.forall_mem_cons.mpr ⟨lw_p10, List.forall_mem_cons.mpr ⟨lw_p11, List.forall_mem_cons.mpr ⟨lw_p12, List.forall_mem_cons.mpr ⟨lw_p13, List.forall_mem_cons.mpr ⟨lw_p14, List.forall_mem_cons.mpr ⟨lw_p15, fun _ h => absurd h List.not_mem_nil⟩⟩⟩⟩⟩⟩⟩⟩⟩⟩⟩⟩⟩⟩⟩⟩
theorem lw_p16 : lw_okq (⟨"MakingLimitsModel", "readClass", "(I)V"⟩, 24) := ⟨⟨by decide +kernel, by decide +kernel⟩, List.mem_of_getElem? (i := 627) (by decide +kernel), List.mem_of_getElem? (i := 738) (by decide +kernel), List.mem_of_getElem? (i := 739) (by decide +kernel)⟩
theorem lw_p17 : lw_okq (⟨"MakingLimitsModel", "whole", "()J"⟩, 24) := ⟨⟨by decide +kernel, by decide +kernel⟩, List.mem_of_getElem? (i := 627) (by decide +kernel), List.mem_of_getElem? (i := 745) (by decide +kernel), List.mem_of_getElem? (i := 746) (by decide +kernel)⟩
theorem lw_p18 : lw_okq (⟨"MakingLimitsModel", "copyClasses", "(II)V"⟩, 24) := ⟨⟨by decide +kernel, by decide +kernel⟩, List.mem_of_getElem? (i := 627) (by decide +kernel), List.mem_of_getElem? (i := 753) (by decide +kernel), List.mem_of_getElem? (i := 754) (by decide +kernel)⟩
theorem lw_p19 : lw_okq (⟨"MakingLimitsModel", "isClass", "(II)Z"⟩, 24) := ⟨⟨by decide +kernel, by decide +kernel⟩, List.mem_of_getElem? (i := 627) (by decide +kernel), List.mem_of_getElem? (i := 776) (by decide +kernel), List.mem_of_getElem? (i := 777) (by decide +kernel)⟩
theorem lw_p20 : lw_okq (⟨"MakingLimitsModel", "isMaker", "(I)Z"⟩, 24) := ⟨⟨by decide +kernel, by decide +kernel⟩, List.mem_of_getElem? (i := 627) (by decide +kernel), List.mem_of_getElem? (i := 780) (by decide +kernel), List.mem_of_getElem? (i := 781) (by decide +kernel)⟩
theorem lw_p21 : lw_okq (⟨"MakingLimitsModel", "beyond", "(III)J"⟩, 24) := ⟨⟨by decide +kernel, by decide +kernel⟩, List.mem_of_getElem? (i := 627) (by decide +kernel), List.mem_of_getElem? (i := 784) (by decide +kernel), List.mem_of_getElem? (i := 785) (by decide +kernel)⟩
theorem lw_p22 : lw_okq (⟨"MakingLimitsModel", "leastOf", "(I)I"⟩, 24) := ⟨⟨by decide +kernel, by decide +kernel⟩, List.mem_of_getElem? (i := 627) (by decide +kernel), List.mem_of_getElem? (i := 796) (by decide +kernel), List.mem_of_getElem? (i := 797) (by decide +kernel)⟩
theorem lw_p23 : lw_okq (⟨"MakingLimitsModel", "makes", "(II)Z"⟩, 24) := ⟨⟨by decide +kernel, by decide +kernel⟩, List.mem_of_getElem? (i := 627) (by decide +kernel), List.mem_of_getElem? (i := 800) (by decide +kernel), List.mem_of_getElem? (i := 801) (by decide +kernel)⟩
theorem lw_p24 : lw_okq (⟨"MakingLimitsModel", "priceOf", "(IIJ)J"⟩, 24) := ⟨⟨by decide +kernel, by decide +kernel⟩, List.mem_of_getElem? (i := 627) (by decide +kernel), List.mem_of_getElem? (i := 811) (by decide +kernel), List.mem_of_getElem? (i := 812) (by decide +kernel)⟩
def lw_privs_2 : List (MethodName × Nat) := [(⟨"MakingLimitsModel", "readClass", "(I)V"⟩, 24), (⟨"MakingLimitsModel", "whole", "()J"⟩, 24), (⟨"MakingLimitsModel", "copyClasses", "(II)V"⟩, 24), (⟨"MakingLimitsModel", "isClass", "(II)Z"⟩, 24), (⟨"MakingLimitsModel", "isMaker", "(I)Z"⟩, 24), (⟨"MakingLimitsModel", "beyond", "(III)J"⟩, 24), (⟨"MakingLimitsModel", "leastOf", "(I)I"⟩, 24), (⟨"MakingLimitsModel", "makes", "(II)Z"⟩, 24), (⟨"MakingLimitsModel", "priceOf", "(IIJ)J"⟩, 24)]
theorem lw_r2 : ∀ q ∈ lw_privs_2, lw_okq q := List.forall_mem_cons.mpr ⟨lw_p16, List.forall_mem_cons.mpr ⟨lw_p17, List.forall_mem_cons.mpr ⟨lw_p18, List.forall_mem_cons.mpr ⟨lw_p19, List.forall_mem_cons.mpr ⟨lw_p20, List.forall_mem_cons.mpr ⟨lw_p21, List.forall_mem_cons.mpr ⟨lw_p22, List.forall_mem_cons.mpr ⟨lw_p23, List.forall_mem_cons.mpr ⟨lw_p24, fun _ h => absurd h List.not_mem_nil⟩⟩⟩⟩⟩⟩⟩⟩⟩
def lw_privs : List (MethodName × Nat) := lw_privs_1 ++ (lw_privs_2)
def lw_tbl : List Cond := k2_sels lw_privs ++ tables_1
theorem lw_privs_ok : ∀ q ∈ lw_privs, lw_okq q := by
  show ∀ q ∈ lw_privs_1 ++ (lw_privs_2), lw_okq q
  exact List.forall_mem_append.mpr ⟨lw_r1, lw_r2⟩
end
section
/-! AN ABSTRACT MACHINE for the methods of this claim. Cells have numbers instead of addresses; a value is the machine's, with a cell's number for an address.
ax_C: an array (its kind, its contents) or an object (its class's place in 'classes', its fields); ax_H: the cells (none: one that nobody looks into), and how many slots were ever made. -/
abbrev ax_C : Type := (Nat × vp_A) ⊕ (Nat × List Value)
abbrev ax_H : Type := List (Option ax_C) × Nat
abbrev ax_L : Type := List (Nat × Value)
/-- an end: an answer, or the number of the class of what was thrown -/
abbrev ax_R : Type := (Option Value ⊕ Nat) × ax_H
/-- a method: its class's number, what it returns, its instructions (place, instruction, next place, place jumped to), its handlers, whether it makes an object -/
abbrev ax_M : Type := Nat × Option FieldType × List (Nat × Instr × Nat × Nat) × List (Nat × Nat × Nat × Nat) × Bool
end
section
/-! printed by wip/gen.py out of javap's listing: the classes, the tables of links, the methods -/
def ax_cn (k : Nat) : String := match k with
  | 0 => "MakingLimits"
  | 1 => "MakingLimits$Board"
  | 2 => "MakingLimits$Cells"
  | 3 => "MakingLimits$Grade"
  | 4 => "MakingLimits$Offer"
  | 5 => "MakingLimits$Orders"
  | 6 => "MakingLimits$Quotes"
  | 7 => "MakingLimits$Remarks"
  | 8 => "MakingLimits$Text"
  | 9 => "MakingLimitsModel"
  | 10 => "MakingLimitsLaw"
  | 11 => "java/util/Arrays"
  | _ => "java/lang/Math"
def ax_en (k : Nat) : String := match k with
  | 0 => "java/lang/IndexOutOfBoundsException"
  | _ => "java/lang/IllegalArgumentException"
def ax_F0 : u_T := fun k => match k with
  | 0 => ("MakingLimits", "text", "LMakingLimits$Text;", true)
  | 1 => ("MakingLimits", "offers", "[LMakingLimits$Offer;", true)
  | 2 => ("MakingLimits", "told", "I", false)
  | 3 => ("MakingLimits", "board", "LMakingLimits$Board;", true)
  | 4 => ("MakingLimits", "remarks", "LMakingLimits$Remarks;", true)
  | 5 => ("MakingLimits", "quotes", "LMakingLimits$Quotes;", true)
  | 6 => ("MakingLimits", "orders", "LMakingLimits$Orders;", true)
  | _ => ("MakingLimits", "cells", "LMakingLimits$Cells;", true)
def ax_t0 : Nat → FieldType := fun k => match k with
  | 0 => .object "MakingLimits$Text"
  | 1 => .array (.object "MakingLimits$Offer")
  | 2 => .int
  | 3 => .object "MakingLimits$Board"
  | 4 => .object "MakingLimits$Remarks"
  | 5 => .object "MakingLimits$Quotes"
  | 6 => .object "MakingLimits$Orders"
  | _ => .object "MakingLimits$Cells"
def ax_F1 : u_T := fun k => match k with
  | 0 => ("MakingLimits$Board", "kinds", "[I", true)
  | 1 => ("MakingLimits$Board", "values", "[I", true)
  | 2 => ("MakingLimits$Board", "layers", "[I", true)
  | 3 => ("MakingLimits$Board", "xs", "[I", true)
  | 4 => ("MakingLimits$Board", "ys", "[I", true)
  | _ => ("MakingLimits$Board", "count", "I", false)
def ax_t1 : Nat → FieldType := fun k => match k with
  | 0 => .array .int
  | 1 => .array .int
  | 2 => .array .int
  | 3 => .array .int
  | 4 => .array .int
  | _ => .int
def ax_F2 : u_T := fun k => match k with
  | 0 => ("MakingLimits$Cells", "aboves", "[I", true)
  | _ => ("MakingLimits$Cells", "belows", "[I", true)
def ax_t2 : Nat → FieldType := fun k => match k with
  | 0 => .array .int
  | _ => .array .int
def ax_F3 : u_T := fun k => match k with
  | 0 => ("MakingLimits$Grade", "limits", "[I", true)
  | 1 => ("MakingLimits$Grade", "froms", "[I", true)
  | 2 => ("MakingLimits$Grade", "cents", "[I", true)
  | 3 => ("MakingLimits$Grade", "steps", "I", false)
  | 4 => ("MakingLimits$Grade", "days", "I", false)
  | _ => ("MakingLimits$Grade", "canBe", "Z", false)
def ax_t3 : Nat → FieldType := fun k => match k with
  | 0 => .array .int
  | 1 => .array .int
  | 2 => .array .int
  | 3 => .int
  | 4 => .int
  | _ => .boolean
def ax_F4 : u_T := fun k => match k with
  | 0 => ("MakingLimits$Offer", "grades", "[LMakingLimits$Grade;", true)
  | _ => ("MakingLimits$Offer", "count", "I", false)
def ax_t4 : Nat → FieldType := fun k => match k with
  | 0 => .array (.object "MakingLimits$Grade")
  | _ => .int
def ax_F5 : u_T := fun k => match k with
  | 0 => ("MakingLimits$Orders", "parts", "[I", true)
  | _ => ("MakingLimits$Orders", "count", "I", false)
def ax_t5 : Nat → FieldType := fun k => match k with
  | 0 => .array .int
  | _ => .int
def ax_F6 : u_T := fun k => match k with
  | 0 => ("MakingLimits$Quotes", "makers", "[I", true)
  | 1 => ("MakingLimits$Quotes", "offers", "[LMakingLimits$Offer;", true)
  | 2 => ("MakingLimits$Quotes", "untils", "[J", true)
  | _ => ("MakingLimits$Quotes", "count", "I", false)
def ax_t6 : Nat → FieldType := fun k => match k with
  | 0 => .array .int
  | 1 => .array (.object "MakingLimits$Offer")
  | 2 => .array .long
  | _ => .int
def ax_F7 : u_T := fun k => match k with
  | 0 => ("MakingLimits$Remarks", "things", "[I", true)
  | 1 => ("MakingLimits$Remarks", "excesses", "[I", true)
  | _ => ("MakingLimits$Remarks", "count", "I", false)
def ax_t7 : Nat → FieldType := fun k => match k with
  | 0 => .array .int
  | 1 => .array .int
  | _ => .int
def ax_F8 : u_T := fun k => match k with
  | 0 => ("MakingLimits$Text", "characters", "[C", true)
  | 1 => ("MakingLimits$Text", "length", "I", false)
  | _ => ("MakingLimits$Text", "place", "I", false)
def ax_t8 : Nat → FieldType := fun k => match k with
  | 0 => .array .char
  | 1 => .int
  | _ => .int
def ax_F9 : u_T := fun k => match k with
  | 0 => ("MakingLimitsModel", "thrown", "I", false)
  | 1 => ("MakingLimitsModel", "units", "I", false)
  | 2 => ("MakingLimitsModel", "text", "[I", true)
  | 3 => ("MakingLimitsModel", "makers", "I", false)
  | 4 => ("MakingLimitsModel", "classes", "[I", true)
  | 5 => ("MakingLimitsModel", "numbers", "[J", true)
  | 6 => ("MakingLimitsModel", "things", "I", false)
  | 7 => ("MakingLimitsModel", "kinds", "[I", true)
  | 8 => ("MakingLimitsModel", "values", "[J", true)
  | 9 => ("MakingLimitsModel", "layers", "[I", true)
  | 10 => ("MakingLimitsModel", "x", "[J", true)
  | 11 => ("MakingLimitsModel", "y", "[J", true)
  | 12 => ("MakingLimitsModel", "remarks", "I", false)
  | 13 => ("MakingLimitsModel", "remarkOf", "[I", true)
  | 14 => ("MakingLimitsModel", "excess", "[J", true)
  | 15 => ("MakingLimitsModel", "quotes", "I", false)
  | 16 => ("MakingLimitsModel", "quoteMaker", "[I", true)
  | 17 => ("MakingLimitsModel", "until", "[J", true)
  | 18 => ("MakingLimitsModel", "orders", "I", false)
  | 19 => ("MakingLimitsModel", "orderRow", "[J", true)
  | 20 => ("MakingLimitsModel", "above", "[J", true)
  | 21 => ("MakingLimitsModel", "below", "[J", true)
  | 22 => ("MakingLimitsModel", "at", "I", false)
  | _ => ("MakingLimitsModel", "wrong", "I", false)
def ax_t9 : Nat → FieldType := fun k => match k with
  | 0 => .int
  | 1 => .int
  | 2 => .array .int
  | 3 => .int
  | 4 => .array .int
  | 5 => .array .long
  | 6 => .int
  | 7 => .array .int
  | 8 => .array .long
  | 9 => .array .int
  | 10 => .array .long
  | 11 => .array .long
  | 12 => .int
  | 13 => .array .int
  | 14 => .array .long
  | 15 => .int
  | 16 => .array .int
  | 17 => .array .long
  | 18 => .int
  | 19 => .array .long
  | 20 => .array .long
  | 21 => .array .long
  | 22 => .int
  | _ => .int
abbrev classes : List vw_C := [("MakingLimits", ax_F0, 8), ("MakingLimits$Board", ax_F1, 6), ("MakingLimits$Cells", ax_F2, 2), ("MakingLimits$Grade", ax_F3, 6), ("MakingLimits$Offer", ax_F4, 2), ("MakingLimits$Orders", ax_F5, 2), ("MakingLimits$Quotes", ax_F6, 4), ("MakingLimits$Remarks", ax_F7, 3), ("MakingLimits$Text", ax_F8, 3), ("MakingLimitsModel", ax_F9, 24)]
def ax_ty (ci : Nat) : Nat → FieldType := match ci with
  | 0 => ax_t0
  | 1 => ax_t1
  | 2 => ax_t2
  | 3 => ax_t3
  | 4 => ax_t4
  | 5 => ax_t5
  | 6 => ax_t6
  | 7 => ax_t7
  | 8 => ax_t8
  | _ => ax_t9
def ax_dfl (ci : Nat) : List Value := match ci with
  | 0 => [.null, .null, .int 0, .null, .null, .null, .null, .null]
  | 1 => [.null, .null, .null, .null, .null, .int 0]
  | 2 => [.null, .null]
  | 3 => [.null, .null, .null, .int 0, .int 0, .int 0]
  | 4 => [.null, .int 0]
  | 5 => [.null, .int 0]
  | 6 => [.null, .null, .null, .int 0]
  | 7 => [.null, .null, .int 0]
  | 8 => [.null, .int 0, .int 0]
  | _ => [.int 0, .int 0, .null, .int 0, .null, .null, .int 0, .null, .null, .null, .null, .null, .int 0, .null, .null, .int 0, .null, .null, .int 0, .null, .null, .null, .int 0, .int 0]
def ax_fin (ci k : Nat) : Bool := match ci, k with
  | 0, 0 => true
  | 0, 1 => true
  | 0, 3 => true
  | 0, 4 => true
  | 0, 5 => true
  | 0, 6 => true
  | 0, 7 => true
  | 1, 0 => true
  | 1, 1 => true
  | 1, 2 => true
  | 1, 3 => true
  | 1, 4 => true
  | 2, 0 => true
  | 2, 1 => true
  | 3, 0 => true
  | 3, 1 => true
  | 3, 2 => true
  | 4, 0 => true
  | 5, 0 => true
  | 6, 0 => true
  | 6, 1 => true
  | 6, 2 => true
  | 7, 0 => true
  | 7, 1 => true
  | 8, 0 => true
  | 9, 2 => true
  | 9, 4 => true
  | 9, 5 => true
  | 9, 7 => true
  | 9, 8 => true
  | 9, 9 => true
  | 9, 10 => true
  | 9, 11 => true
  | 9, 13 => true
  | 9, 14 => true
  | 9, 16 => true
  | 9, 17 => true
  | 9, 19 => true
  | 9, 20 => true
  | 9, 21 => true
  | _, _ => false
def ax_ak : ArrayType → Option Nat
  | .int => some 0
  | .long => some 1
  | .char => some 2
  | _ => none
/-- the class whose objects an array of references holds -/
def ax_cmp (k : Nat) : Nat := if k = 3 then 4 else 3
def ax_tF : List ((Nat × Nat) × (Nat × Nat)) := [((0, 10), (0, 0)), ((0, 18), (0, 1)), ((0, 22), (0, 2)), ((0, 29), (0, 3)), ((0, 36), (0, 4)), ((0, 43), (0, 5)), ((0, 50), (0, 6)), ((0, 57), (0, 7)), ((0, 203), (3, 4)), ((1, 11), (1, 0)), ((1, 15), (1, 1)), ((1, 18), (1, 2)), ((1, 21), (1, 3)), ((1, 24), (1, 4)), ((1, 27), (1, 5)), ((2, 11), (2, 0)), ((2, 15), (2, 1)), ((3, 9), (3, 0)), ((3, 15), (3, 1)), ((3, 18), (3, 2)), ((3, 21), (3, 5)), ((3, 26), (3, 3)), ((3, 30), (3, 4)), ((4, 11), (4, 0)), ((4, 17), (4, 1)), ((5, 11), (5, 0)), ((5, 15), (5, 1)), ((6, 11), (6, 0)), ((6, 17), (6, 1)), ((6, 21), (6, 2)), ((6, 25), (6, 3)), ((7, 11), (7, 0)), ((7, 17), (7, 1)), ((7, 20), (7, 2)), ((8, 11), (8, 0)), ((8, 15), (8, 1)), ((8, 19), (8, 2)), ((8, 41), (3, 5)), ((9, 7), (9, 2)), ((9, 13), (9, 4)), ((9, 16), (9, 5)), ((9, 20), (9, 7)), ((9, 23), (9, 8)), ((9, 26), (9, 9)), ((9, 29), (9, 10)), ((9, 32), (9, 11)), ((9, 35), (9, 13)), ((9, 38), (9, 14)), ((9, 41), (9, 16)), ((9, 44), (9, 17)), ((9, 47), (9, 19)), ((9, 50), (9, 20)), ((9, 53), (9, 21)), ((9, 59), (9, 1)), ((9, 63), (9, 3)), ((9, 66), (9, 6)), ((9, 69), (9, 12)), ((9, 72), (9, 15)), ((9, 75), (9, 18)), ((9, 78), (9, 0)), ((9, 81), (9, 22)), ((9, 84), (9, 23))]
def ax_tM : List ((Nat × Nat) × (Nat × Nat)) := [((0, 9), (62, 1)), ((0, 28), (23, 1)), ((0, 35), (57, 1)), ((0, 42), (52, 1)), ((0, 49), (47, 1)), ((0, 56), (31, 1)), ((0, 61), (63, 2)), ((0, 65), (66, 2)), ((0, 69), (67, 1)), ((0, 73), (65, 1)), ((0, 77), (17, 3)), ((0, 81), (64, 1)), ((0, 84), (21, 1)), ((0, 101), (24, 4)), ((0, 104), (25, 2)), ((0, 113), (26, 4)), ((0, 117), (19, 3)), ((0, 121), (58, 3)), ((0, 127), (59, 2)), ((0, 130), (60, 2)), ((0, 133), (29, 3)), ((0, 137), (18, 2)), ((0, 141), (46, 2)), ((0, 145), (20, 1)), ((0, 149), (42, 2)), ((0, 159), (32, 1)), ((0, 164), (34, 3)), ((0, 168), (129, 1)), ((0, 175), (22, 2)), ((0, 179), (53, 4)), ((0, 188), (33, 5)), ((0, 192), (45, 2)), ((0, 196), (54, 3)), ((0, 200), (55, 2)), ((0, 206), (48, 7)), ((0, 209), (49, 2)), ((0, 212), (50, 3)), ((0, 213), (30, 1)), ((0, 214), (61, 1)), ((0, 215), (56, 1)), ((0, 216), (51, 1)), ((0, 217), (36, 1)), ((0, 218), (127, 2)), ((0, 227), (128, 2)), ((1, 31), (25, 2)), ((1, 35), (41, 3)), ((1, 41), (27, 3)), ((2, 18), (126, 2)), ((2, 24), (21, 1)), ((2, 28), (32, 1)), ((2, 31), (35, 3)), ((3, 33), (128, 2)), ((4, 21), (45, 2)), ((4, 25), (28, 2)), ((5, 21), (49, 2)), ((7, 24), (27, 3)), ((8, 22), (73, 2)), ((8, 26), (74, 1)), ((8, 30), (75, 1)), ((8, 36), (43, 1)), ((8, 37), (68, 1)), ((8, 47), (44, 2)), ((8, 51), (37, 1)), ((8, 52), (69, 2)), ((8, 55), (70, 2)), ((8, 58), (71, 2)), ((8, 61), (72, 1)), ((8, 64), (38, 3)), ((8, 68), (39, 3)), ((8, 71), (40, 2)), ((9, 56), (77, 1)), ((9, 87), (81, 1)), ((9, 91), (83, 1)), ((9, 99), (85, 2)), ((9, 103), (82, 2)), ((9, 107), (84, 1)), ((9, 115), (86, 2)), ((9, 118), (87, 3)), ((9, 122), (89, 1)), ((9, 128), (91, 1)), ((9, 132), (93, 4)), ((9, 136), (94, 3)), ((9, 140), (96, 2)), ((9, 143), (97, 3)), ((9, 146), (95, 2)), ((9, 150), (101, 1)), ((9, 153), (102, 4)), ((9, 157), (106, 2)), ((10, 7), (3, 4)), ((10, 17), (4, 4)), ((10, 21), (5, 3)), ((10, 25), (6, 3)), ((10, 28), (7, 2)), ((10, 32), (8, 4)), ((10, 36), (9, 4)), ((10, 40), (10, 4)), ((10, 44), (11, 3)), ((10, 48), (12, 5)), ((10, 52), (13, 2)), ((10, 56), (14, 4)), ((10, 60), (15, 3)), ((10, 63), (0, 1)), ((10, 66), (76, 1)), ((10, 67), (1, 2)), ((10, 71), (80, 2)), ((10, 72), (2, 1)), ((10, 76), (88, 1)), ((10, 79), (112, 5)), ((10, 84), (90, 4)), ((10, 85), (78, 1)), ((10, 88), (113, 5)), ((10, 91), (92, 4)), ((10, 92), (114, 4)), ((10, 95), (98, 3)), ((10, 96), (115, 4)), ((10, 98), (99, 3)), ((10, 99), (116, 3)), ((10, 102), (100, 2)), ((10, 103), (117, 5)), ((10, 106), (103, 4)), ((10, 107), (118, 5)), ((10, 110), (104, 4)), ((10, 111), (119, 5)), ((10, 114), (108, 4)), ((10, 115), (120, 4)), ((10, 118), (109, 3)), ((10, 119), (121, 6)), ((10, 122), (107, 5)), ((10, 123), (122, 3)), ((10, 126), (105, 2)), ((10, 127), (123, 5)), ((10, 129), (110, 4)), ((10, 130), (124, 4)), ((10, 132), (111, 3)), ((10, 133), (16, 1)), ((10, 136), (79, 1))]
def ax_tN : List ((Nat × Nat) × Nat) := [((0, 7), 8), ((0, 26), 1), ((0, 33), 7), ((0, 40), 6), ((0, 47), 5), ((0, 54), 2), ((8, 34), 4), ((8, 42), 3), ((10, 8), 0), ((10, 64), 9)]
def ax_tX : List ((Nat × Nat) × (Nat × Nat)) := [((0, 87), (0, 91)), ((0, 96), (1, 100))]
def ax_tS : List (Nat × Nat) := [(0, 89), (0, 98), (0, 107), (0, 111), (0, 125), (0, 155), (0, 157), (0, 162), (0, 182), (0, 186), (0, 210), (0, 221), (0, 223), (0, 225)]
def ax_tR : List ((Nat × Nat) × Nat) := [((0, 16), 3), ((4, 9), 4), ((6, 15), 3)]
def ax_tI : List ((Nat × Nat) × Int32) := [((3, 25), 1000000)]
def ax_tL : List ((Nat × Nat) × Int64) := [((0, 94), 1000000), ((0, 109), (-1000000)), ((0, 173), 40320), ((0, 184), 10), ((2, 35), 16), ((5, 19), 1000), ((9, 95), 10), ((9, 97), 48), ((9, 111), 1000000), ((9, 113), 1000), ((9, 126), (-1000000)), ((9, 160), 2520), ((9, 162), 16), ((9, 164), 40320), ((9, 166), (-1)), ((10, 77), 4294967295)]
def ax_tO : List (Nat × Nat) := [(0, 1), (1, 3), (2, 5), (3, 3), (4, 3), (5, 3), (6, 3), (7, 3), (8, 3), (9, 1)]
def ax_tC : List ((Nat × Nat) × Nat) := [((10, 13), 0), ((10, 15), 1)]
def tb_ML_init_1 : List (Nat × Instr × Nat × Nat) := [(0, .aload_n 0, 1, 0), (1, .invokespecial 1, 4, 0), (4, .aload_n 0, 5, 0), (5, .new 7, 8, 0), (8, .dup, 9, 0), (9, .invokespecial 9, 12, 0), (12, .putfield 10, 15, 0), (15, .aload_n 0, 16, 0), (16, .iconst 4, 17, 0), (17, .anewarray 16, 20, 0), (20, .putfield 18, 23, 0), (23, .aload_n 0, 24, 0), (24, .iconst 0, 25, 0), (25, .putfield 22, 28, 0), (28, .aload_n 0, 29, 0), (29, .new 26, 32, 0), (32, .dup, 33, 0), (33, .invokespecial 28, 36, 0), (36, .putfield 29, 39, 0), (39, .aload_n 0, 40, 0), (40, .new 33, 43, 0), (43, .dup, 44, 0), (44, .invokespecial 35, 47, 0), (47, .putfield 36, 50, 0), (50, .aload_n 0, 51, 0), (51, .new 40, 54, 0), (54, .dup, 55, 0), (55, .invokespecial 42, 58, 0), (58, .putfield 43, 61, 0), (61, .aload_n 0, 62, 0)]
def tb_ML_init_2 : List (Nat × Instr × Nat × Nat) := [(62, .new 47, 65, 0), (65, .dup, 66, 0), (66, .invokespecial 49, 69, 0), (69, .putfield 50, 72, 0), (72, .aload_n 0, 73, 0), (73, .new 54, 76, 0), (76, .dup, 77, 0), (77, .invokespecial 56, 80, 0), (80, .putfield 57, 83, 0), (83, .return_, 84, 0)]
def tb_ML_init : List (Nat × Instr × Nat × Nat) := tb_ML_init_1 ++ tb_ML_init_2
def M_ML_init : ax_M := (0, none, tb_ML_init, [], true)
def m_ML_init : Nat := 0
def tb_ML_unit : List (Nat × Instr × Nat × Nat) := [(0, .aload_n 0, 1, 0), (1, .getfield 10, 4, 0), (4, .iload_n 1, 5, 0), (5, .invokevirtual 61, 8, 0), (8, .ireturn, 9, 0)]
def M_ML_unit : ax_M := (0, (some .boolean), tb_ML_unit, [], false)
def m_ML_unit : Nat := 1
def tb_ML_maker_1 : List (Nat × Instr × Nat × Nat) := [(0, .aload_n 0, 1, 0), (1, .getfield 10, 4, 0), (4, .aload_n 0, 5, 0), (5, .getfield 22, 8, 0), (8, .invokevirtual 65, 11, 0), (11, .istore_n 1, 12, 0), (12, .iload_n 1, 13, 0), (13, .iconst (-1), 14, 0), (14, .if_icmp .ne 7, 17, 21), (17, .aconst_null, 18, 0), (18, .goto 10, 21, 28), (21, .aload_n 0, 22, 0), (22, .getfield 10, 25, 0), (25, .invokevirtual 69, 28, 0), (28, .astore_n 2, 29, 0), (29, .iload_n 1, 30, 0), (30, .istore_n 3, 31, 0), (31, .aload_n 2, 32, 0), (32, .ifnonnull 16, 35, 48), (35, .iconst (-1), 36, 0), (36, .aload_n 0, 37, 0), (37, .getfield 10, 40, 0), (40, .invokevirtual 73, 43, 0), (43, .isub, 44, 0), (44, .istore_n 3, 45, 0), (45, .goto 9, 48, 54), (48, .aload_n 0, 49, 0), (49, .iload_n 1, 50, 0), (50, .aload_n 2, 51, 0), (51, .invokevirtual 77, 54, 0)]
def tb_ML_maker_2 : List (Nat × Instr × Nat × Nat) := [(54, .aload_n 0, 55, 0), (55, .getfield 10, 58, 0), (58, .invokevirtual 81, 61, 0), (61, .iload_n 3, 62, 0), (62, .ireturn, 63, 0)]
def tb_ML_maker : List (Nat × Instr × Nat × Nat) := tb_ML_maker_1 ++ tb_ML_maker_2
def M_ML_maker : ax_M := (0, (some .int), tb_ML_maker, [], false)
def m_ML_maker : Nat := 2
def tb_ML_thing_1 : List (Nat × Instr × Nat × Nat) := [(0, .iload_n 1, 1, 0), (1, .ifCond .lt 17, 4, 18), (4, .iload_n 1, 5, 0), (5, .bipush 6, 7, 0), (7, .if_icmp .ge 11, 10, 18), (10, .iload 4, 12, 0), (12, .invokestatic 84, 15, 0), (15, .ifCond .eq 13, 18, 28), (18, .new 87, 21, 0), (21, .dup, 22, 0), (22, .ldc 89, 24, 0), (24, .invokespecial 91, 27, 0), (27, .athrow, 28, 0), (28, .lload_n 2, 29, 0), (29, .lconst 0, 30, 0), (30, .lcmp, 31, 0), (31, .ifCond .lt 11, 34, 42), (34, .lload_n 2, 35, 0), (35, .ldc2_w 94, 38, 0), (38, .lcmp, 39, 0), (39, .ifCond .le 13, 42, 52), (42, .new 96, 45, 0), (45, .dup, 46, 0), (46, .ldc 98, 48, 0), (48, .invokespecial 100, 51, 0), (51, .athrow, 52, 0), (52, .aload_n 0, 53, 0), (53, .getfield 29, 56, 0), (56, .iload_n 1, 57, 0), (57, .lload_n 2, 58, 0)]
def tb_ML_thing_2 : List (Nat × Instr × Nat × Nat) := [(58, .l2i, 59, 0), (59, .iload 4, 61, 0), (61, .invokevirtual 101, 64, 0), (64, .ireturn, 65, 0)]
def tb_ML_thing : List (Nat × Instr × Nat × Nat) := tb_ML_thing_1 ++ tb_ML_thing_2
def M_ML_thing : ax_M := (0, (some .int), tb_ML_thing, [], false)
def m_ML_thing : Nat := 3
def tb_ML_at_1 : List (Nat × Instr × Nat × Nat) := [(0, .aload_n 0, 1, 0), (1, .getfield 29, 4, 0), (4, .iload_n 1, 5, 0), (5, .invokevirtual 104, 8, 0), (8, .ifCond .eq 13, 11, 21), (11, .new 87, 14, 0), (14, .dup, 15, 0), (15, .ldc 107, 17, 0), (17, .invokespecial 91, 20, 0), (20, .athrow, 21, 0), (21, .lload_n 2, 22, 0), (22, .ldc2_w 109, 25, 0), (25, .lcmp, 26, 0), (26, .ifCond .lt 29, 29, 55), (29, .lload_n 2, 30, 0), (30, .ldc2_w 94, 33, 0), (33, .lcmp, 34, 0), (34, .ifCond .gt 21, 37, 55), (37, .lload 4, 39, 0), (39, .ldc2_w 109, 42, 0), (42, .lcmp, 43, 0), (43, .ifCond .lt 12, 46, 55), (46, .lload 4, 48, 0), (48, .ldc2_w 94, 51, 0), (51, .lcmp, 52, 0), (52, .ifCond .le 13, 55, 65), (55, .new 96, 58, 0), (58, .dup, 59, 0), (59, .ldc 111, 61, 0), (61, .invokespecial 100, 64, 0)]
def tb_ML_at_2 : List (Nat × Instr × Nat × Nat) := [(64, .athrow, 65, 0), (65, .aload_n 0, 66, 0), (66, .getfield 29, 69, 0), (69, .iload_n 1, 70, 0), (70, .lload_n 2, 71, 0), (71, .l2i, 72, 0), (72, .lload 4, 74, 0), (74, .l2i, 75, 0), (75, .invokevirtual 113, 78, 0), (78, .ireturn, 79, 0)]
def tb_ML_at : List (Nat × Instr × Nat × Nat) := tb_ML_at_1 ++ tb_ML_at_2
def M_ML_at : ax_M := (0, (some .boolean), tb_ML_at, [], false)
def m_ML_at : Nat := 4
def tb_ML_run : List (Nat × Instr × Nat × Nat) := [(0, .aload_n 0, 1, 0), (1, .getfield 36, 4, 0), (4, .aload_n 0, 5, 0), (5, .getfield 29, 8, 0), (8, .aload_n 0, 9, 0), (9, .iload_n 1, 10, 0), (10, .iload_n 2, 11, 0), (11, .invokevirtual 117, 14, 0), (14, .invokevirtual 121, 17, 0), (17, .ireturn, 18, 0)]
def M_ML_run : ax_M := (0, (some .int), tb_ML_run, [], false)
def m_ML_run : Nat := 5
def tb_ML_remark_1 : List (Nat × Instr × Nat × Nat) := [(0, .iload_n 2, 1, 0), (1, .ifCond .lt 8, 4, 9), (4, .iload_n 2, 5, 0), (5, .iconst 5, 6, 0), (6, .if_icmp .le 13, 9, 19), (9, .new 87, 12, 0), (12, .dup, 13, 0), (13, .ldc 125, 15, 0), (15, .invokespecial 91, 18, 0), (18, .athrow, 19, 0), (19, .aload_n 0, 20, 0), (20, .getfield 36, 23, 0), (23, .iload_n 1, 24, 0), (24, .invokevirtual 127, 27, 0), (27, .istore_n 3, 28, 0), (28, .iload_n 3, 29, 0), (29, .iconst (-1), 30, 0), (30, .if_icmp .ne 5, 33, 35), (33, .iconst (-1), 34, 0), (34, .ireturn, 35, 0), (35, .iload_n 2, 36, 0), (36, .lookupswitch 39 #[(0, 28), (2, 30)], 64, 0), (64, .iload_n 3, 65, 0), (65, .ireturn, 66, 0), (66, .aload_n 0, 67, 0), (67, .getfield 36, 70, 0), (70, .iload_n 1, 71, 0), (71, .invokevirtual 130, 74, 0), (74, .ireturn, 75, 0), (75, .aload_n 0, 76, 0)]
def tb_ML_remark_2 : List (Nat × Instr × Nat × Nat) := [(76, .getfield 29, 79, 0), (79, .iload_n 3, 80, 0), (80, .iload_n 2, 81, 0), (81, .invokevirtual 133, 84, 0), (84, .ireturn, 85, 0)]
def tb_ML_remark : List (Nat × Instr × Nat × Nat) := tb_ML_remark_1 ++ tb_ML_remark_2
def M_ML_remark : ax_M := (0, (some .int), tb_ML_remark, [], false)
def m_ML_remark : Nat := 6
def tb_ML_least : List (Nat × Instr × Nat × Nat) := [(0, .aload_n 0, 1, 0), (1, .iload_n 1, 2, 0), (2, .invokevirtual 137, 5, 0), (5, .aload_n 0, 6, 0), (6, .getfield 29, 9, 0), (9, .invokevirtual 141, 12, 0), (12, .ireturn, 13, 0)]
def M_ML_least : ax_M := (0, (some .int), tb_ML_least, [], false)
def m_ML_least : Nat := 7
def tb_ML_price : List (Nat × Instr × Nat × Nat) := [(0, .aload_n 0, 1, 0), (1, .iload_n 1, 2, 0), (2, .iload_n 2, 3, 0), (3, .invokevirtual 117, 6, 0), (6, .astore 5, 8, 0), (8, .lload_n 3, 9, 0), (9, .invokestatic 145, 12, 0), (12, .aload 5, 14, 0), (14, .lload_n 3, 15, 0), (15, .invokevirtual 149, 18, 0), (18, .lreturn, 19, 0)]
def M_ML_price : ax_M := (0, (some .long), tb_ML_price, [], false)
def m_ML_price : Nat := 8
def tb_ML_share_1 : List (Nat × Instr × Nat × Nat) := [(0, .lload_n 3, 1, 0), (1, .lconst 1, 2, 0), (2, .lcmp, 3, 0), (3, .ifCond .lt 17, 6, 20), (6, .lload_n 3, 7, 0), (7, .ldc2_w 94, 10, 0), (10, .lcmp, 11, 0), (11, .ifCond .gt 9, 14, 20), (14, .lload_n 1, 15, 0), (15, .lconst 0, 16, 0), (16, .lcmp, 17, 0), (17, .ifCond .ge 13, 20, 30), (20, .new 96, 23, 0), (23, .dup, 24, 0), (24, .ldc 155, 26, 0), (26, .invokespecial 100, 29, 0), (29, .athrow, 30, 0), (30, .iload 5, 32, 0), (32, .ifCond .lt 11, 35, 43), (35, .iload 5, 37, 0), (37, .i2l, 38, 0), (38, .lload_n 3, 39, 0), (39, .lcmp, 40, 0), (40, .ifCond .lt 13, 43, 53), (43, .new 87, 46, 0), (46, .dup, 47, 0), (47, .ldc 157, 49, 0), (49, .invokespecial 91, 52, 0), (52, .athrow, 53, 0), (53, .lload_n 1, 54, 0)]
def tb_ML_share_2 : List (Nat × Instr × Nat × Nat) := [(54, .lload_n 3, 55, 0), (55, .lrem, 56, 0), (56, .lstore 6, 58, 0), (58, .lload_n 1, 59, 0), (59, .lload_n 3, 60, 0), (60, .ldiv, 61, 0), (61, .iload 5, 63, 0), (63, .i2l, 64, 0), (64, .lload 6, 66, 0), (66, .lcmp, 67, 0), (67, .ifCond .ge 7, 70, 74), (70, .iconst 1, 71, 0), (71, .goto 4, 74, 75), (74, .iconst 0, 75, 0), (75, .i2l, 76, 0), (76, .ladd, 77, 0), (77, .lreturn, 78, 0)]
def tb_ML_share : List (Nat × Instr × Nat × Nat) := tb_ML_share_1 ++ tb_ML_share_2
def M_ML_share : ax_M := (0, (some .long), tb_ML_share, [], false)
def m_ML_share : Nat := 9
def tb_ML_balance_1 : List (Nat × Instr × Nat × Nat) := [(0, .iload_n 1, 1, 0), (1, .invokestatic 84, 4, 0), (4, .ifCond .ne 19, 7, 23), (7, .iload_n 2, 8, 0), (8, .invokestatic 159, 11, 0), (11, .ifCond .ne 12, 14, 23), (14, .iload_n 3, 15, 0), (15, .ifCond .lt 8, 18, 23), (18, .iload_n 3, 19, 0), (19, .iconst 1, 20, 0), (20, .if_icmp .le 13, 23, 33), (23, .new 87, 26, 0), (26, .dup, 27, 0), (27, .ldc 162, 29, 0), (29, .invokespecial 91, 32, 0), (32, .athrow, 33, 0), (33, .aload_n 0, 34, 0), (34, .getfield 57, 37, 0), (37, .iload_n 1, 38, 0), (38, .iload_n 2, 39, 0), (39, .invokevirtual 164, 42, 0), (42, .lstore 4, 44, 0), (44, .lload 4, 46, 0), (46, .invokestatic 168, 49, 0), (49, .ldc2_w 173, 52, 0), (52, .invokestatic 175, 55, 0), (55, .lstore 6, 57, 0), (57, .iload_n 3, 58, 0), (58, .ifCond .ne 8, 61, 66), (61, .lload 4, 63, 0)]
def tb_ML_balance_2 : List (Nat × Instr × Nat × Nat) := [(63, .goto 6, 66, 69), (66, .ldc2_w 173, 69, 0), (69, .lload 6, 71, 0), (71, .ldiv, 72, 0), (72, .lreturn, 73, 0)]
def tb_ML_balance : List (Nat × Instr × Nat × Nat) := tb_ML_balance_1 ++ tb_ML_balance_2
def M_ML_balance : ax_M := (0, (some .long), tb_ML_balance, [], false)
def m_ML_balance : Nat := 10
def tb_ML_quote : List (Nat × Instr × Nat × Nat) := [(0, .aload_n 0, 1, 0), (1, .getfield 43, 4, 0), (4, .iload_n 1, 5, 0), (5, .aload_n 0, 6, 0), (6, .iload_n 1, 7, 0), (7, .invokevirtual 137, 10, 0), (10, .lload_n 2, 11, 0), (11, .invokevirtual 179, 14, 0), (14, .ireturn, 15, 0)]
def M_ML_quote : ax_M := (0, (some .int), tb_ML_quote, [], false)
def m_ML_quote : Nat := 11
def tb_ML_copper_1 : List (Nat × Instr × Nat × Nat) := [(0, .iload_n 1, 1, 0), (1, .invokestatic 84, 4, 0), (4, .ifCond .ne 10, 7, 14), (7, .iload_n 2, 8, 0), (8, .invokestatic 159, 11, 0), (11, .ifCond .eq 13, 14, 24), (14, .new 87, 17, 0), (17, .dup, 18, 0), (18, .ldc 182, 20, 0), (20, .invokespecial 91, 23, 0), (23, .athrow, 24, 0), (24, .lload 5, 26, 0), (26, .lconst 1, 27, 0), (27, .lcmp, 28, 0), (28, .ifCond .lt 25, 31, 53), (31, .lload 5, 33, 0), (33, .ldc2_w 184, 36, 0), (36, .lcmp, 37, 0), (37, .ifCond .gt 16, 40, 53), (40, .lload_n 3, 41, 0), (41, .lconst 0, 42, 0), (42, .lcmp, 43, 0), (43, .ifCond .lt 10, 46, 53), (46, .lload_n 3, 47, 0), (47, .lload 5, 49, 0), (49, .lcmp, 50, 0), (50, .ifCond .le 13, 53, 63), (53, .new 96, 56, 0), (56, .dup, 57, 0), (57, .ldc 186, 59, 0)]
def tb_ML_copper_2 : List (Nat × Instr × Nat × Nat) := [(59, .invokespecial 100, 62, 0), (62, .athrow, 63, 0), (63, .aload_n 0, 64, 0), (64, .getfield 57, 67, 0), (67, .iload_n 1, 68, 0), (68, .iload_n 2, 69, 0), (69, .lload_n 3, 70, 0), (70, .l2i, 71, 0), (71, .lload 5, 73, 0), (73, .l2i, 74, 0), (74, .invokevirtual 188, 77, 0), (77, .ireturn, 78, 0)]
def tb_ML_copper : List (Nat × Instr × Nat × Nat) := tb_ML_copper_1 ++ tb_ML_copper_2
def M_ML_copper : ax_M := (0, (some .boolean), tb_ML_copper, [], false)
def m_ML_copper : Nat := 12
def tb_ML_best_1 : List (Nat × Instr × Nat × Nat) := [(0, .lload_n 1, 1, 0), (1, .invokestatic 145, 4, 0), (4, .iconst (-1), 5, 0), (5, .istore_n 3, 6, 0), (6, .lconst 0, 7, 0), (7, .lstore 4, 9, 0), (9, .iconst 0, 10, 0), (10, .istore 6, 12, 0), (12, .iload 6, 14, 0), (14, .iconst 4, 15, 0), (15, .if_icmp .ge 76, 18, 91), (18, .aload_n 0, 19, 0), (19, .getfield 18, 22, 0), (22, .iload 6, 24, 0), (24, .aaload, 25, 0), (25, .astore 7, 27, 0), (27, .aload 7, 29, 0), (29, .ifnonnull 7, 32, 36), (32, .aconst_null, 33, 0), (33, .goto 17, 36, 50), (36, .aload 7, 38, 0), (38, .aload 7, 40, 0), (40, .aload_n 0, 41, 0), (41, .getfield 29, 44, 0), (44, .invokevirtual 141, 47, 0), (47, .invokevirtual 192, 50, 0), (50, .astore 8, 52, 0), (52, .aload 8, 54, 0), (54, .ifnull 31, 57, 85), (57, .iload_n 3, 58, 0)]
def tb_ML_best_2 : List (Nat × Instr × Nat × Nat) := [(58, .iconst (-1), 59, 0), (59, .if_icmp .eq 15, 62, 74), (62, .aload 8, 64, 0), (64, .lload_n 1, 65, 0), (65, .invokevirtual 149, 68, 0), (68, .lload 4, 70, 0), (70, .lcmp, 71, 0), (71, .ifCond .ge 14, 74, 85), (74, .iload 6, 76, 0), (76, .istore_n 3, 77, 0), (77, .aload 8, 79, 0), (79, .lload_n 1, 80, 0), (80, .invokevirtual 149, 83, 0), (83, .lstore 4, 85, 0), (85, .iinc 6 1, 88, 0), (88, .goto (-76), 91, 12), (91, .iload_n 3, 92, 0), (92, .ireturn, 93, 0)]
def tb_ML_best : List (Nat × Instr × Nat × Nat) := tb_ML_best_1 ++ tb_ML_best_2
def M_ML_best : ax_M := (0, (some .int), tb_ML_best, [], false)
def m_ML_best : Nat := 13
def tb_ML_order_1 : List (Nat × Instr × Nat × Nat) := [(0, .aload_n 0, 1, 0), (1, .iload_n 1, 2, 0), (2, .invokevirtual 137, 5, 0), (5, .astore 6, 7, 0), (7, .lload_n 2, 8, 0), (8, .invokestatic 145, 11, 0), (11, .aload_n 0, 12, 0), (12, .getfield 43, 15, 0), (15, .iload_n 1, 16, 0), (16, .lload 4, 18, 0), (18, .invokevirtual 196, 21, 0), (21, .istore 7, 23, 0), (23, .aload_n 0, 24, 0), (24, .getfield 43, 27, 0), (27, .iload 7, 29, 0), (29, .invokevirtual 200, 32, 0), (32, .astore 8, 34, 0), (34, .aload 8, 36, 0), (36, .ifnonnull 8, 39, 44), (39, .aload 6, 41, 0), (41, .goto 5, 44, 46), (44, .aload 8, 46, 0), (46, .astore 9, 48, 0), (48, .aload 9, 50, 0), (50, .aload_n 0, 51, 0), (51, .getfield 29, 54, 0), (54, .invokevirtual 141, 57, 0), (57, .istore 10, 59, 0), (59, .aload 9, 61, 0), (61, .iload 10, 63, 0)]
def tb_ML_order_2 : List (Nat × Instr × Nat × Nat) := [(63, .invokevirtual 192, 66, 0), (66, .astore 11, 68, 0), (68, .aload 11, 70, 0), (70, .ifnonnull 5, 73, 75), (73, .iconst (-1), 74, 0), (74, .ireturn, 75, 0), (75, .aload_n 0, 76, 0), (76, .getfield 50, 79, 0), (79, .iload_n 1, 80, 0), (80, .iload 10, 82, 0), (82, .lload_n 2, 83, 0), (83, .l2i, 84, 0), (84, .aload 11, 86, 0), (86, .getfield 203, 89, 0), (89, .aload 11, 91, 0), (91, .lload_n 2, 92, 0), (92, .invokevirtual 149, 95, 0), (95, .iload 7, 97, 0), (97, .invokevirtual 206, 100, 0), (100, .ireturn, 101, 0)]
def tb_ML_order : List (Nat × Instr × Nat × Nat) := tb_ML_order_1 ++ tb_ML_order_2
def M_ML_order : ax_M := (0, (some .int), tb_ML_order, [], false)
def m_ML_order : Nat := 14
def tb_ML_history : List (Nat × Instr × Nat × Nat) := [(0, .aload_n 0, 1, 0), (1, .getfield 50, 4, 0), (4, .iload_n 1, 5, 0), (5, .invokevirtual 209, 8, 0), (8, .ifCond .ne 13, 11, 21), (11, .iload_n 2, 12, 0), (12, .ifCond .lt 9, 15, 21), (15, .iload_n 2, 16, 0), (16, .bipush 7, 18, 0), (18, .if_icmp .lt 13, 21, 31), (21, .new 87, 24, 0), (24, .dup, 25, 0), (25, .ldc 210, 27, 0), (27, .invokespecial 91, 30, 0), (30, .athrow, 31, 0), (31, .aload_n 0, 32, 0), (32, .getfield 50, 35, 0), (35, .iload_n 1, 36, 0), (36, .iload_n 2, 37, 0), (37, .invokevirtual 212, 40, 0), (40, .ireturn, 41, 0)]
def M_ML_history : ax_M := (0, (some .int), tb_ML_history, [], false)
def m_ML_history : Nat := 15
def tb_ML_clear_1 : List (Nat × Instr × Nat × Nat) := [(0, .aload_n 0, 1, 0), (1, .getfield 10, 4, 0), (4, .invokevirtual 81, 7, 0), (7, .iconst 0, 8, 0), (8, .istore_n 1, 9, 0), (9, .iload_n 1, 10, 0), (10, .iconst 4, 11, 0), (11, .if_icmp .ge 16, 14, 27), (14, .aload_n 0, 15, 0), (15, .getfield 18, 18, 0), (18, .iload_n 1, 19, 0), (19, .aconst_null, 20, 0), (20, .aastore, 21, 0), (21, .iinc 1 1, 24, 0), (24, .goto (-15), 27, 9), (27, .aload_n 0, 28, 0), (28, .iconst 0, 29, 0), (29, .putfield 22, 32, 0), (32, .aload_n 0, 33, 0), (33, .getfield 29, 36, 0), (36, .invokevirtual 213, 39, 0), (39, .aload_n 0, 40, 0), (40, .getfield 36, 43, 0), (43, .invokevirtual 214, 46, 0), (46, .aload_n 0, 47, 0), (47, .getfield 43, 50, 0), (50, .invokevirtual 215, 53, 0), (53, .aload_n 0, 54, 0), (54, .getfield 50, 57, 0), (57, .invokevirtual 216, 60, 0)]
def tb_ML_clear_2 : List (Nat × Instr × Nat × Nat) := [(60, .aload_n 0, 61, 0), (61, .getfield 57, 64, 0), (64, .invokevirtual 217, 67, 0), (67, .return_, 68, 0)]
def tb_ML_clear : List (Nat × Instr × Nat × Nat) := tb_ML_clear_1 ++ tb_ML_clear_2
def M_ML_clear : ax_M := (0, none, tb_ML_clear, [], false)
def m_ML_clear : Nat := 16
def tb_ML_keepOffer : List (Nat × Instr × Nat × Nat) := [(0, .iload_n 1, 1, 0), (1, .ifCond .lt 8, 4, 9), (4, .iload_n 1, 5, 0), (5, .iconst 4, 6, 0), (6, .if_icmp .lt 4, 9, 10), (9, .return_, 10, 0), (10, .aload_n 0, 11, 0), (11, .getfield 18, 14, 0), (14, .iload_n 1, 15, 0), (15, .aload_n 2, 16, 0), (16, .aastore, 17, 0), (17, .aload_n 0, 18, 0), (18, .aload_n 0, 19, 0), (19, .getfield 22, 22, 0), (22, .iload_n 1, 23, 0), (23, .iconst 1, 24, 0), (24, .iadd, 25, 0), (25, .invokestatic 218, 28, 0), (28, .putfield 22, 31, 0), (31, .return_, 32, 0)]
def M_ML_keepOffer : ax_M := (0, none, tb_ML_keepOffer, [], false)
def m_ML_keepOffer : Nat := 17
def tb_ML_offerOf : List (Nat × Instr × Nat × Nat) := [(0, .iload_n 1, 1, 0), (1, .ifCond .lt 8, 4, 9), (4, .iload_n 1, 5, 0), (5, .iconst 4, 6, 0), (6, .if_icmp .lt 7, 9, 13), (9, .aconst_null, 10, 0), (10, .goto 9, 13, 19), (13, .aload_n 0, 14, 0), (14, .getfield 18, 17, 0), (17, .iload_n 1, 18, 0), (18, .aaload, 19, 0), (19, .astore_n 2, 20, 0), (20, .aload_n 2, 21, 0), (21, .ifnonnull 13, 24, 34), (24, .new 87, 27, 0), (27, .dup, 28, 0), (28, .ldc 221, 30, 0), (30, .invokespecial 91, 33, 0), (33, .athrow, 34, 0), (34, .aload_n 2, 35, 0), (35, .areturn, 36, 0)]
def M_ML_offerOf : ax_M := (0, (some (.object "MakingLimits$Offer")), tb_ML_offerOf, [], false)
def m_ML_offerOf : Nat := 18
def tb_ML_gradeOf : List (Nat × Instr × Nat × Nat) := [(0, .aload_n 0, 1, 0), (1, .iload_n 1, 2, 0), (2, .invokevirtual 137, 5, 0), (5, .iload_n 2, 6, 0), (6, .invokevirtual 192, 9, 0), (9, .astore_n 3, 10, 0), (10, .aload_n 3, 11, 0), (11, .ifnonnull 13, 14, 24), (14, .new 87, 17, 0), (17, .dup, 18, 0), (18, .ldc 223, 20, 0), (20, .invokespecial 91, 23, 0), (23, .athrow, 24, 0), (24, .aload_n 3, 25, 0), (25, .areturn, 26, 0)]
def M_ML_gradeOf : ax_M := (0, (some (.object "MakingLimits$Grade")), tb_ML_gradeOf, [], false)
def m_ML_gradeOf : Nat := 19
def tb_ML_checkQuantity : List (Nat × Instr × Nat × Nat) := [(0, .lload_n 0, 1, 0), (1, .lconst 1, 2, 0), (2, .lcmp, 3, 0), (3, .ifCond .lt 11, 6, 14), (6, .lload_n 0, 7, 0), (7, .ldc2_w 94, 10, 0), (10, .lcmp, 11, 0), (11, .ifCond .le 13, 14, 24), (14, .new 96, 17, 0), (17, .dup, 18, 0), (18, .ldc 225, 20, 0), (20, .invokespecial 100, 23, 0), (23, .athrow, 24, 0), (24, .return_, 25, 0)]
def M_ML_checkQuantity : ax_M := (0, none, tb_ML_checkQuantity, [], false)
def m_ML_checkQuantity : Nat := 20
def tb_ML_isNoLayer : List (Nat × Instr × Nat × Nat) := [(0, .iload_n 0, 1, 0), (1, .ifCond .lt 9, 4, 10), (4, .iload_n 0, 5, 0), (5, .bipush 8, 7, 0), (7, .if_icmp .lt 7, 10, 14), (10, .iconst 1, 11, 0), (11, .goto 4, 14, 15), (14, .iconst 0, 15, 0), (15, .ireturn, 16, 0)]
def M_ML_isNoLayer : ax_M := (0, (some .boolean), tb_ML_isNoLayer, [], false)
def m_ML_isNoLayer : Nat := 21
def tb_ML_commonDivisor : List (Nat × Instr × Nat × Nat) := [(0, .lload_n 0, 1, 0), (1, .lstore 4, 3, 0), (3, .lload_n 2, 4, 0), (4, .lstore 6, 6, 0), (6, .iconst 0, 7, 0), (7, .istore 8, 9, 0), (9, .iload 8, 11, 0), (11, .bipush 100, 13, 0), (13, .if_icmp .ge 31, 16, 44), (16, .lload 6, 18, 0), (18, .lconst 0, 19, 0), (19, .lcmp, 20, 0), (20, .ifCond .eq 24, 23, 44), (23, .lload 4, 25, 0), (25, .lload 6, 27, 0), (27, .lrem, 28, 0), (28, .lstore 9, 30, 0), (30, .lload 6, 32, 0), (32, .lstore 4, 34, 0), (34, .lload 9, 36, 0), (36, .lstore 6, 38, 0), (38, .iinc 8 1, 41, 0), (41, .goto (-32), 44, 9), (44, .lload 4, 46, 0), (46, .lconst 1, 47, 0), (47, .invokestatic 227, 50, 0), (50, .lreturn, 51, 0)]
def M_ML_commonDivisor : ax_M := (0, (some .long), tb_ML_commonDivisor, [], false)
def m_ML_commonDivisor : Nat := 22
def tb_Bd_init : List (Nat × Instr × Nat × Nat) := [(0, .aload_n 0, 1, 0), (1, .invokespecial 3, 4, 0), (4, .aload_n 0, 5, 0), (5, .bipush 60, 7, 0), (7, .newarray .int, 9, 0), (9, .putfield 11, 12, 0), (12, .aload_n 0, 13, 0), (13, .bipush 60, 15, 0), (15, .newarray .int, 17, 0), (17, .putfield 15, 20, 0), (20, .aload_n 0, 21, 0), (21, .bipush 60, 23, 0), (23, .newarray .int, 25, 0), (25, .putfield 18, 28, 0), (28, .aload_n 0, 29, 0), (29, .bipush 60, 31, 0), (31, .newarray .int, 33, 0), (33, .putfield 21, 36, 0), (36, .aload_n 0, 37, 0), (37, .bipush 60, 39, 0), (39, .newarray .int, 41, 0), (41, .putfield 24, 44, 0), (44, .return_, 45, 0)]
def M_Bd_init : ax_M := (1, none, tb_Bd_init, [], true)
def m_Bd_init : Nat := 23
def tb_Bd_add_1 : List (Nat × Instr × Nat × Nat) := [(0, .aload_n 0, 1, 0), (1, .getfield 27, 4, 0), (4, .bipush 60, 6, 0), (6, .if_icmp .lt 5, 9, 11), (9, .iconst (-1), 10, 0), (10, .ireturn, 11, 0), (11, .aload_n 0, 12, 0), (12, .getfield 11, 15, 0), (15, .aload_n 0, 16, 0), (16, .getfield 27, 19, 0), (19, .iload_n 1, 20, 0), (20, .iastore, 21, 0), (21, .aload_n 0, 22, 0), (22, .getfield 15, 25, 0), (25, .aload_n 0, 26, 0), (26, .getfield 27, 29, 0), (29, .iload_n 2, 30, 0), (30, .iastore, 31, 0), (31, .aload_n 0, 32, 0), (32, .getfield 18, 35, 0), (35, .aload_n 0, 36, 0), (36, .getfield 27, 39, 0), (39, .iload_n 3, 40, 0), (40, .iastore, 41, 0), (41, .aload_n 0, 42, 0), (42, .getfield 21, 45, 0), (45, .aload_n 0, 46, 0), (46, .getfield 27, 49, 0), (49, .iconst 0, 50, 0), (50, .iastore, 51, 0)]
def tb_Bd_add_2 : List (Nat × Instr × Nat × Nat) := [(51, .aload_n 0, 52, 0), (52, .getfield 24, 55, 0), (55, .aload_n 0, 56, 0), (56, .getfield 27, 59, 0), (59, .iconst 0, 60, 0), (60, .iastore, 61, 0), (61, .aload_n 0, 62, 0), (62, .dup, 63, 0), (63, .getfield 27, 66, 0), (66, .iconst 1, 67, 0), (67, .iadd, 68, 0), (68, .putfield 27, 71, 0), (71, .aload_n 0, 72, 0), (72, .getfield 27, 75, 0), (75, .iconst 1, 76, 0), (76, .isub, 77, 0), (77, .ireturn, 78, 0)]
def tb_Bd_add : List (Nat × Instr × Nat × Nat) := tb_Bd_add_1 ++ tb_Bd_add_2
def M_Bd_add : ax_M := (1, (some .int), tb_Bd_add, [], false)
def m_Bd_add : Nat := 24
def tb_Bd_hasNo : List (Nat × Instr × Nat × Nat) := [(0, .iload_n 1, 1, 0), (1, .ifCond .lt 11, 4, 12), (4, .iload_n 1, 5, 0), (5, .aload_n 0, 6, 0), (6, .getfield 27, 9, 0), (9, .if_icmp .lt 7, 12, 16), (12, .iconst 1, 13, 0), (13, .goto 4, 16, 17), (16, .iconst 0, 17, 0), (17, .ireturn, 18, 0)]
def M_Bd_hasNo : ax_M := (1, (some .boolean), tb_Bd_hasNo, [], false)
def m_Bd_hasNo : Nat := 25
def tb_Bd_move_1 : List (Nat × Instr × Nat × Nat) := [(0, .aload_n 0, 1, 0), (1, .iload_n 1, 2, 0), (2, .invokevirtual 31, 5, 0), (5, .ifCond .eq 5, 8, 10), (8, .iconst 0, 9, 0), (9, .ireturn, 10, 0), (10, .aload_n 0, 11, 0), (11, .getfield 21, 14, 0), (14, .iload_n 1, 15, 0), (15, .iaload, 16, 0), (16, .iload_n 2, 17, 0), (17, .if_icmp .ne 13, 20, 30), (20, .aload_n 0, 21, 0), (21, .getfield 24, 24, 0), (24, .iload_n 1, 25, 0), (25, .iaload, 26, 0), (26, .iload_n 3, 27, 0), (27, .if_icmp .eq 7, 30, 34), (30, .iconst 1, 31, 0), (31, .goto 4, 34, 35), (34, .iconst 0, 35, 0), (35, .istore 4, 37, 0), (37, .aload_n 0, 38, 0), (38, .getfield 21, 41, 0), (41, .iload_n 1, 42, 0), (42, .iload_n 2, 43, 0), (43, .iastore, 44, 0), (44, .aload_n 0, 45, 0), (45, .getfield 24, 48, 0), (48, .iload_n 1, 49, 0)]
def tb_Bd_move_2 : List (Nat × Instr × Nat × Nat) := [(49, .iload_n 3, 50, 0), (50, .iastore, 51, 0), (51, .iload 4, 53, 0), (53, .ireturn, 54, 0)]
def tb_Bd_move : List (Nat × Instr × Nat × Nat) := tb_Bd_move_1 ++ tb_Bd_move_2
def M_Bd_move : ax_M := (1, (some .boolean), tb_Bd_move, [], false)
def m_Bd_move : Nat := 26
def tb_Bd_excess : List (Nat × Instr × Nat × Nat) := [(0, .aload_n 0, 1, 0), (1, .iload_n 1, 2, 0), (2, .invokevirtual 31, 5, 0), (5, .ifCond .eq 7, 8, 12), (8, .iconst 0, 9, 0), (9, .goto 19, 12, 28), (12, .aload_n 2, 13, 0), (13, .aload_n 0, 14, 0), (14, .getfield 11, 17, 0), (17, .iload_n 1, 18, 0), (18, .iaload, 19, 0), (19, .aload_n 0, 20, 0), (20, .getfield 15, 23, 0), (23, .iload_n 1, 24, 0), (24, .iaload, 25, 0), (25, .invokevirtual 35, 28, 0), (28, .ireturn, 29, 0)]
def M_Bd_excess : ax_M := (1, (some .int), tb_Bd_excess, [], false)
def m_Bd_excess : Nat := 27
def tb_Bd_isMadeBy : List (Nat × Instr × Nat × Nat) := [(0, .iconst 0, 1, 0), (1, .istore_n 2, 2, 0), (2, .iload_n 2, 3, 0), (3, .aload_n 0, 4, 0), (4, .getfield 27, 7, 0), (7, .if_icmp .ge 20, 10, 27), (10, .aload_n 0, 11, 0), (11, .iload_n 2, 12, 0), (12, .aload_n 1, 13, 0), (13, .invokevirtual 41, 16, 0), (16, .ifCond .le 5, 19, 21), (19, .iconst 0, 20, 0), (20, .ireturn, 21, 0), (21, .iinc 2 1, 24, 0), (24, .goto (-22), 27, 2), (27, .iconst 1, 28, 0), (28, .ireturn, 29, 0)]
def M_Bd_isMadeBy : ax_M := (1, (some .boolean), tb_Bd_isMadeBy, [], false)
def m_Bd_isMadeBy : Nat := 28
def tb_Bd_part : List (Nat × Instr × Nat × Nat) := [(0, .aload_n 0, 1, 0), (1, .iload_n 1, 2, 0), (2, .invokevirtual 31, 5, 0), (5, .ifCond .eq 5, 8, 10), (8, .iconst (-1), 9, 0), (9, .ireturn, 10, 0), (10, .iload_n 2, 11, 0), (11, .tableswitch 61 1 5 #[33, 61, 40, 47, 54], 44, 0), (44, .aload_n 0, 45, 0), (45, .getfield 11, 48, 0), (48, .iload_n 1, 49, 0), (49, .iaload, 50, 0), (50, .ireturn, 51, 0), (51, .aload_n 0, 52, 0), (52, .getfield 18, 55, 0), (55, .iload_n 1, 56, 0), (56, .iaload, 57, 0), (57, .ireturn, 58, 0), (58, .aload_n 0, 59, 0), (59, .getfield 21, 62, 0), (62, .iload_n 1, 63, 0), (63, .iaload, 64, 0), (64, .ireturn, 65, 0), (65, .aload_n 0, 66, 0), (66, .getfield 24, 69, 0), (69, .iload_n 1, 70, 0), (70, .iaload, 71, 0), (71, .ireturn, 72, 0), (72, .iconst (-1), 73, 0), (73, .ireturn, 74, 0)]
def M_Bd_part : ax_M := (1, (some .int), tb_Bd_part, [], false)
def m_Bd_part : Nat := 29
def tb_Bd_forget : List (Nat × Instr × Nat × Nat) := [(0, .aload_n 0, 1, 0), (1, .iconst 0, 2, 0), (2, .putfield 27, 5, 0), (5, .return_, 6, 0)]
def M_Bd_forget : ax_M := (1, none, tb_Bd_forget, [], false)
def m_Bd_forget : Nat := 30
def tb_Ce_init : List (Nat × Instr × Nat × Nat) := [(0, .aload_n 0, 1, 0), (1, .invokespecial 5, 4, 0), (4, .aload_n 0, 5, 0), (5, .sipush 128, 8, 0), (8, .newarray .int, 10, 0), (10, .putfield 11, 13, 0), (13, .aload_n 0, 14, 0), (14, .sipush 128, 17, 0), (17, .newarray .int, 19, 0), (19, .putfield 15, 22, 0), (22, .aload_n 0, 23, 0), (23, .getfield 15, 26, 0), (26, .iconst 1, 27, 0), (27, .invokestatic 18, 30, 0), (30, .return_, 31, 0)]
def M_Ce_init : ax_M := (2, none, tb_Ce_init, [], true)
def m_Ce_init : Nat := 31
def tb_Ce_isNoCell : List (Nat × Instr × Nat × Nat) := [(0, .iload_n 0, 1, 0), (1, .ifCond .lt 9, 4, 10), (4, .iload_n 0, 5, 0), (5, .bipush 16, 7, 0), (7, .if_icmp .lt 7, 10, 14), (10, .iconst 1, 11, 0), (11, .goto 4, 14, 15), (14, .iconst 0, 15, 0), (15, .ireturn, 16, 0)]
def M_Ce_isNoCell : ax_M := (2, (some .boolean), tb_Ce_isNoCell, [], false)
def m_Ce_isNoCell : Nat := 32
def tb_Ce_tell_1 : List (Nat × Instr × Nat × Nat) := [(0, .iload_n 1, 1, 0), (1, .invokestatic 24, 4, 0), (4, .ifCond .ne 10, 7, 14), (7, .iload_n 2, 8, 0), (8, .invokestatic 28, 11, 0), (11, .ifCond .eq 5, 14, 16), (14, .iconst 0, 15, 0), (15, .ireturn, 16, 0), (16, .iload_n 1, 17, 0), (17, .bipush 16, 19, 0), (19, .imul, 20, 0), (20, .iload_n 2, 21, 0), (21, .iadd, 22, 0), (22, .istore 5, 24, 0), (24, .aload_n 0, 25, 0), (25, .getfield 11, 28, 0), (28, .iload 5, 30, 0), (30, .iaload, 31, 0), (31, .iload_n 3, 32, 0), (32, .if_icmp .ne 15, 35, 47), (35, .aload_n 0, 36, 0), (36, .getfield 15, 39, 0), (39, .iload 5, 41, 0), (41, .iaload, 42, 0), (42, .iload 4, 44, 0), (44, .if_icmp .eq 7, 47, 51), (47, .iconst 1, 48, 0), (48, .goto 4, 51, 52), (51, .iconst 0, 52, 0), (52, .istore 6, 54, 0)]
def tb_Ce_tell_2 : List (Nat × Instr × Nat × Nat) := [(54, .aload_n 0, 55, 0), (55, .getfield 11, 58, 0), (58, .iload 5, 60, 0), (60, .iload_n 3, 61, 0), (61, .iastore, 62, 0), (62, .aload_n 0, 63, 0), (63, .getfield 15, 66, 0), (66, .iload 5, 68, 0), (68, .iload 4, 70, 0), (70, .iastore, 71, 0), (71, .iload 6, 73, 0), (73, .ireturn, 74, 0)]
def tb_Ce_tell : List (Nat × Instr × Nat × Nat) := tb_Ce_tell_1 ++ tb_Ce_tell_2
def M_Ce_tell : ax_M := (2, (some .boolean), tb_Ce_tell, [], false)
def m_Ce_tell : Nat := 33
def tb_Ce_aboveMean : List (Nat × Instr × Nat × Nat) := [(0, .lconst 0, 1, 0), (1, .lstore_n 3, 2, 0), (2, .iconst 0, 3, 0), (3, .istore 5, 5, 0), (5, .iload 5, 7, 0), (7, .bipush 16, 9, 0), (9, .if_icmp .ge 19, 12, 28), (12, .lload_n 3, 13, 0), (13, .aload_n 0, 14, 0), (14, .iload_n 1, 15, 0), (15, .iload 5, 17, 0), (17, .invokevirtual 31, 20, 0), (20, .ladd, 21, 0), (21, .lstore_n 3, 22, 0), (22, .iinc 5 1, 25, 0), (25, .goto (-20), 28, 5), (28, .ldc2_w 35, 31, 0), (31, .aload_n 0, 32, 0), (32, .iload_n 1, 33, 0), (33, .iload_n 2, 34, 0), (34, .invokevirtual 31, 37, 0), (37, .lmul, 38, 0), (38, .lload_n 3, 39, 0), (39, .lsub, 40, 0), (40, .lreturn, 41, 0)]
def M_Ce_aboveMean : ax_M := (2, (some .long), tb_Ce_aboveMean, [], false)
def m_Ce_aboveMean : Nat := 34
def tb_Ce_units_1 : List (Nat × Instr × Nat × Nat) := [(0, .iload_n 1, 1, 0), (1, .invokestatic 24, 4, 0), (4, .ifCond .ne 10, 7, 14), (7, .iload_n 2, 8, 0), (8, .invokestatic 28, 11, 0), (11, .ifCond .eq 5, 14, 16), (14, .lconst 0, 15, 0), (15, .lreturn, 16, 0), (16, .iload_n 1, 17, 0), (17, .bipush 16, 19, 0), (19, .imul, 20, 0), (20, .iload_n 2, 21, 0), (21, .iadd, 22, 0), (22, .istore_n 3, 23, 0), (23, .aload_n 0, 24, 0), (24, .getfield 15, 27, 0), (27, .iload_n 3, 28, 0), (28, .iaload, 29, 0), (29, .istore 4, 31, 0), (31, .iload 4, 33, 0), (33, .iconst 1, 34, 0), (34, .if_icmp .ge 7, 37, 41), (37, .lconst 0, 38, 0), (38, .goto 18, 41, 56), (41, .aload_n 0, 42, 0), (42, .getfield 11, 45, 0), (45, .iload_n 3, 46, 0), (46, .iaload, 47, 0), (47, .i2l, 48, 0), (48, .sipush 2520, 51, 0)]
def tb_Ce_units_2 : List (Nat × Instr × Nat × Nat) := [(51, .iload 4, 53, 0), (53, .idiv, 54, 0), (54, .i2l, 55, 0), (55, .lmul, 56, 0), (56, .lreturn, 57, 0)]
def tb_Ce_units : List (Nat × Instr × Nat × Nat) := tb_Ce_units_1 ++ tb_Ce_units_2
def M_Ce_units : ax_M := (2, (some .long), tb_Ce_units, [], false)
def m_Ce_units : Nat := 35
def tb_Ce_forget : List (Nat × Instr × Nat × Nat) := [(0, .aload_n 0, 1, 0), (1, .getfield 11, 4, 0), (4, .iconst 0, 5, 0), (5, .invokestatic 18, 8, 0), (8, .aload_n 0, 9, 0), (9, .getfield 15, 12, 0), (12, .iconst 1, 13, 0), (13, .invokestatic 18, 16, 0), (16, .return_, 17, 0)]
def M_Ce_forget : ax_M := (2, none, tb_Ce_forget, [], false)
def m_Ce_forget : Nat := 36
def tb_Gr_init : List (Nat × Instr × Nat × Nat) := [(0, .aload_n 0, 1, 0), (1, .invokespecial 3, 4, 0), (4, .aload_n 0, 5, 0), (5, .bipush 6, 7, 0), (7, .newarray .int, 9, 0), (9, .putfield 9, 12, 0), (12, .aload_n 0, 13, 0), (13, .iconst 4, 14, 0), (14, .newarray .int, 16, 0), (16, .putfield 15, 19, 0), (19, .aload_n 0, 20, 0), (20, .iconst 4, 21, 0), (21, .newarray .int, 23, 0), (23, .putfield 18, 26, 0), (26, .aload_n 0, 27, 0), (27, .iconst 1, 28, 0), (28, .putfield 21, 31, 0), (31, .return_, 32, 0)]
def M_Gr_init : ax_M := (3, none, tb_Gr_init, [], true)
def m_Gr_init : Nat := 37
def tb_Gr_setLimit : List (Nat × Instr × Nat × Nat) := [(0, .iload_n 1, 1, 0), (1, .ifCond .lt 15, 4, 16), (4, .iload_n 1, 5, 0), (5, .bipush 6, 7, 0), (7, .if_icmp .ge 9, 10, 16), (10, .iload_n 2, 11, 0), (11, .ldc 25, 13, 0), (13, .if_icmp .le 9, 16, 22), (16, .aload_n 0, 17, 0), (17, .iconst 0, 18, 0), (18, .putfield 21, 21, 0), (21, .return_, 22, 0), (22, .aload_n 0, 23, 0), (23, .getfield 9, 26, 0), (26, .iload_n 1, 27, 0), (27, .iload_n 2, 28, 0), (28, .iastore, 29, 0), (29, .return_, 30, 0)]
def M_Gr_setLimit : ax_M := (3, none, tb_Gr_setLimit, [], false)
def m_Gr_setLimit : Nat := 38
def tb_Gr_addStep_1 : List (Nat × Instr × Nat × Nat) := [(0, .aload_n 0, 1, 0), (1, .getfield 26, 4, 0), (4, .ifCond .ne 7, 7, 11), (7, .iconst 0, 8, 0), (8, .goto 14, 11, 22), (11, .aload_n 0, 12, 0), (12, .getfield 15, 15, 0), (15, .aload_n 0, 16, 0), (16, .getfield 26, 19, 0), (19, .iconst 1, 20, 0), (20, .isub, 21, 0), (21, .iaload, 22, 0), (22, .istore_n 3, 23, 0), (23, .aload_n 0, 24, 0), (24, .getfield 26, 27, 0), (27, .iconst 4, 28, 0), (28, .if_icmp .ge 25, 31, 53), (31, .iload_n 1, 32, 0), (32, .iload_n 3, 33, 0), (33, .if_icmp .le 20, 36, 53), (36, .iload_n 1, 37, 0), (37, .ldc 25, 39, 0), (39, .if_icmp .gt 14, 42, 53), (42, .iload_n 2, 43, 0), (43, .iconst 1, 44, 0), (44, .if_icmp .lt 9, 47, 53), (47, .iload_n 2, 48, 0), (48, .ldc 25, 50, 0), (50, .if_icmp .le 9, 53, 59), (53, .aload_n 0, 54, 0)]
def tb_Gr_addStep_2 : List (Nat × Instr × Nat × Nat) := [(54, .iconst 0, 55, 0), (55, .putfield 21, 58, 0), (58, .return_, 59, 0), (59, .aload_n 0, 60, 0), (60, .getfield 15, 63, 0), (63, .aload_n 0, 64, 0), (64, .getfield 26, 67, 0), (67, .iload_n 1, 68, 0), (68, .iastore, 69, 0), (69, .aload_n 0, 70, 0), (70, .getfield 18, 73, 0), (73, .aload_n 0, 74, 0), (74, .getfield 26, 77, 0), (77, .iload_n 2, 78, 0), (78, .iastore, 79, 0), (79, .aload_n 0, 80, 0), (80, .dup, 81, 0), (81, .getfield 26, 84, 0), (84, .iconst 1, 85, 0), (85, .iadd, 86, 0), (86, .putfield 26, 89, 0), (89, .return_, 90, 0)]
def tb_Gr_addStep : List (Nat × Instr × Nat × Nat) := tb_Gr_addStep_1 ++ tb_Gr_addStep_2
def M_Gr_addStep : ax_M := (3, none, tb_Gr_addStep, [], false)
def m_Gr_addStep : Nat := 39
def tb_Gr_setDays : List (Nat × Instr × Nat × Nat) := [(0, .iload_n 1, 1, 0), (1, .sipush 1000, 4, 0), (4, .if_icmp .le 9, 7, 13), (7, .aload_n 0, 8, 0), (8, .iconst 0, 9, 0), (9, .putfield 21, 12, 0), (12, .return_, 13, 0), (13, .aload_n 0, 14, 0), (14, .iload_n 1, 15, 0), (15, .putfield 30, 18, 0), (18, .return_, 19, 0)]
def M_Gr_setDays : ax_M := (3, none, tb_Gr_setDays, [], false)
def m_Gr_setDays : Nat := 40
def tb_Gr_excess : List (Nat × Instr × Nat × Nat) := [(0, .iload_n 1, 1, 0), (1, .ifCond .lt 9, 4, 10), (4, .iload_n 1, 5, 0), (5, .bipush 6, 7, 0), (7, .if_icmp .lt 5, 10, 12), (10, .iconst 0, 11, 0), (11, .ireturn, 12, 0), (12, .iload_n 2, 13, 0), (13, .aload_n 0, 14, 0), (14, .getfield 9, 17, 0), (17, .iload_n 1, 18, 0), (18, .iaload, 19, 0), (19, .isub, 20, 0), (20, .istore_n 3, 21, 0), (21, .iload_n 1, 22, 0), (22, .iconst 4, 23, 0), (23, .if_icmp .ge 8, 26, 31), (26, .iload_n 3, 27, 0), (27, .ineg, 28, 0), (28, .goto 4, 31, 32), (31, .iload_n 3, 32, 0), (32, .ireturn, 33, 0)]
def M_Gr_excess : ax_M := (3, (some .int), tb_Gr_excess, [], false)
def m_Gr_excess : Nat := 41
def tb_Gr_priceOf_1 : List (Nat × Instr × Nat × Nat) := [(0, .lload_n 1, 1, 0), (1, .aload_n 0, 2, 0), (2, .getfield 15, 5, 0), (5, .iconst 0, 6, 0), (6, .iaload, 7, 0), (7, .i2l, 8, 0), (8, .invokestatic 33, 11, 0), (11, .lstore_n 3, 12, 0), (12, .aload_n 0, 13, 0), (13, .getfield 18, 16, 0), (16, .iconst 0, 17, 0), (17, .iaload, 18, 0), (18, .i2l, 19, 0), (19, .lstore 5, 21, 0), (21, .iconst 1, 22, 0), (22, .istore 7, 24, 0), (24, .iload 7, 26, 0), (26, .aload_n 0, 27, 0), (27, .getfield 26, 30, 0), (30, .if_icmp .ge 32, 33, 62), (33, .aload_n 0, 34, 0), (34, .getfield 15, 37, 0), (37, .iload 7, 39, 0), (39, .iaload, 40, 0), (40, .i2l, 41, 0), (41, .lload_n 3, 42, 0), (42, .lcmp, 43, 0), (43, .ifCond .gt 13, 46, 56), (46, .aload_n 0, 47, 0), (47, .getfield 18, 50, 0)]
def tb_Gr_priceOf_2 : List (Nat × Instr × Nat × Nat) := [(50, .iload 7, 52, 0), (52, .iaload, 53, 0), (53, .i2l, 54, 0), (54, .lstore 5, 56, 0), (56, .iinc 7 1, 59, 0), (59, .goto (-35), 62, 24), (62, .lload_n 3, 63, 0), (63, .lload 5, 65, 0), (65, .lmul, 66, 0), (66, .lreturn, 67, 0)]
def tb_Gr_priceOf : List (Nat × Instr × Nat × Nat) := tb_Gr_priceOf_1 ++ tb_Gr_priceOf_2
def M_Gr_priceOf : ax_M := (3, (some .long), tb_Gr_priceOf, [], false)
def m_Gr_priceOf : Nat := 42
def tb_Of_init : List (Nat × Instr × Nat × Nat) := [(0, .aload_n 0, 1, 0), (1, .invokespecial 3, 4, 0), (4, .aload_n 0, 5, 0), (5, .iconst 4, 6, 0), (6, .anewarray 9, 9, 0), (9, .putfield 11, 12, 0), (12, .return_, 13, 0)]
def M_Of_init : ax_M := (4, none, tb_Of_init, [], true)
def m_Of_init : Nat := 43
def tb_Of_add : List (Nat × Instr × Nat × Nat) := [(0, .aload_n 0, 1, 0), (1, .getfield 17, 4, 0), (4, .iconst 4, 5, 0), (5, .if_icmp .lt 5, 8, 10), (8, .iconst 0, 9, 0), (9, .ireturn, 10, 0), (10, .aload_n 0, 11, 0), (11, .getfield 11, 14, 0), (14, .aload_n 0, 15, 0), (15, .getfield 17, 18, 0), (18, .aload_n 1, 19, 0), (19, .aastore, 20, 0), (20, .aload_n 0, 21, 0), (21, .dup, 22, 0), (22, .getfield 17, 25, 0), (25, .iconst 1, 26, 0), (26, .iadd, 27, 0), (27, .putfield 17, 30, 0), (30, .iconst 1, 31, 0), (31, .ireturn, 32, 0)]
def M_Of_add : ax_M := (4, (some .boolean), tb_Of_add, [], false)
def m_Of_add : Nat := 44
def tb_Of_gradeAt : List (Nat × Instr × Nat × Nat) := [(0, .iload_n 1, 1, 0), (1, .ifCond .lt 11, 4, 12), (4, .iload_n 1, 5, 0), (5, .aload_n 0, 6, 0), (6, .getfield 17, 9, 0), (9, .if_icmp .lt 7, 12, 16), (12, .aconst_null, 13, 0), (13, .goto 9, 16, 22), (16, .aload_n 0, 17, 0), (17, .getfield 11, 20, 0), (20, .iload_n 1, 21, 0), (21, .aaload, 22, 0), (22, .areturn, 23, 0)]
def M_Of_gradeAt : ax_M := (4, (some (.object "MakingLimits$Grade")), tb_Of_gradeAt, [], false)
def m_Of_gradeAt : Nat := 45
def tb_Of_leastFor : List (Nat × Instr × Nat × Nat) := [(0, .iconst 0, 1, 0), (1, .istore_n 2, 2, 0), (2, .iload_n 2, 3, 0), (3, .aload_n 0, 4, 0), (4, .getfield 17, 7, 0), (7, .if_icmp .ge 29, 10, 36), (10, .aload_n 0, 11, 0), (11, .iload_n 2, 12, 0), (12, .invokevirtual 21, 15, 0), (15, .astore_n 3, 16, 0), (16, .aload_n 3, 17, 0), (17, .ifnull 13, 20, 30), (20, .aload_n 1, 21, 0), (21, .aload_n 3, 22, 0), (22, .invokevirtual 25, 25, 0), (25, .ifCond .eq 5, 28, 30), (28, .iload_n 2, 29, 0), (29, .ireturn, 30, 0), (30, .iinc 2 1, 33, 0), (33, .goto (-31), 36, 2), (36, .iconst (-1), 37, 0), (37, .ireturn, 38, 0)]
def M_Of_leastFor : ax_M := (4, (some .int), tb_Of_leastFor, [], false)
def m_Of_leastFor : Nat := 46
def tb_Or_init : List (Nat × Instr × Nat × Nat) := [(0, .aload_n 0, 1, 0), (1, .invokespecial 3, 4, 0), (4, .aload_n 0, 5, 0), (5, .sipush 140, 8, 0), (8, .newarray .int, 10, 0), (10, .putfield 11, 13, 0), (13, .return_, 14, 0)]
def M_Or_init : ax_M := (5, none, tb_Or_init, [], true)
def m_Or_init : Nat := 47
def tb_Or_add_1 : List (Nat × Instr × Nat × Nat) := [(0, .aload_n 0, 1, 0), (1, .getfield 15, 4, 0), (4, .bipush 20, 6, 0), (6, .if_icmp .lt 5, 9, 11), (9, .iconst (-1), 10, 0), (10, .ireturn, 11, 0), (11, .aload_n 0, 12, 0), (12, .getfield 15, 15, 0), (15, .bipush 7, 17, 0), (17, .imul, 18, 0), (18, .istore 8, 20, 0), (20, .aload_n 0, 21, 0), (21, .getfield 11, 24, 0), (24, .iload 8, 26, 0), (26, .iload_n 1, 27, 0), (27, .iastore, 28, 0), (28, .aload_n 0, 29, 0), (29, .getfield 11, 32, 0), (32, .iload 8, 34, 0), (34, .iconst 1, 35, 0), (35, .iadd, 36, 0), (36, .iload_n 2, 37, 0), (37, .iastore, 38, 0), (38, .aload_n 0, 39, 0), (39, .getfield 11, 42, 0), (42, .iload 8, 44, 0), (44, .iconst 2, 45, 0), (45, .iadd, 46, 0), (46, .iload_n 3, 47, 0), (47, .iastore, 48, 0)]
def tb_Or_add_2 : List (Nat × Instr × Nat × Nat) := [(48, .aload_n 0, 49, 0), (49, .getfield 11, 52, 0), (52, .iload 8, 54, 0), (54, .iconst 3, 55, 0), (55, .iadd, 56, 0), (56, .iload 4, 58, 0), (58, .iastore, 59, 0), (59, .aload_n 0, 60, 0), (60, .getfield 11, 63, 0), (63, .iload 8, 65, 0), (65, .iconst 4, 66, 0), (66, .iadd, 67, 0), (67, .lload 5, 69, 0), (69, .ldc2_w 19, 72, 0), (72, .ldiv, 73, 0), (73, .l2i, 74, 0), (74, .iastore, 75, 0), (75, .aload_n 0, 76, 0), (76, .getfield 11, 79, 0), (79, .iload 8, 81, 0), (81, .iconst 5, 82, 0), (82, .iadd, 83, 0), (83, .lload 5, 85, 0), (85, .ldc2_w 19, 88, 0), (88, .lrem, 89, 0), (89, .l2i, 90, 0), (90, .iastore, 91, 0), (91, .aload_n 0, 92, 0), (92, .getfield 11, 95, 0), (95, .iload 8, 97, 0)]
def tb_Or_add_3 : List (Nat × Instr × Nat × Nat) := [(97, .bipush 6, 99, 0), (99, .iadd, 100, 0), (100, .iload 7, 102, 0), (102, .iastore, 103, 0), (103, .aload_n 0, 104, 0), (104, .dup, 105, 0), (105, .getfield 15, 108, 0), (108, .iconst 1, 109, 0), (109, .iadd, 110, 0), (110, .putfield 15, 113, 0), (113, .aload_n 0, 114, 0), (114, .getfield 15, 117, 0), (117, .iconst 1, 118, 0), (118, .isub, 119, 0), (119, .ireturn, 120, 0)]
def tb_Or_add : List (Nat × Instr × Nat × Nat) := tb_Or_add_1 ++ (tb_Or_add_2 ++ tb_Or_add_3)
def M_Or_add : ax_M := (5, (some .int), tb_Or_add, [], false)
def m_Or_add : Nat := 48
def tb_Or_hasNo : List (Nat × Instr × Nat × Nat) := [(0, .iload_n 1, 1, 0), (1, .ifCond .lt 11, 4, 12), (4, .iload_n 1, 5, 0), (5, .aload_n 0, 6, 0), (6, .getfield 15, 9, 0), (9, .if_icmp .lt 7, 12, 16), (12, .iconst 1, 13, 0), (13, .goto 4, 16, 17), (16, .iconst 0, 17, 0), (17, .ireturn, 18, 0)]
def M_Or_hasNo : ax_M := (5, (some .boolean), tb_Or_hasNo, [], false)
def m_Or_hasNo : Nat := 49
def tb_Or_part : List (Nat × Instr × Nat × Nat) := [(0, .aload_n 0, 1, 0), (1, .iload_n 1, 2, 0), (2, .invokevirtual 21, 5, 0), (5, .ifCond .ne 13, 8, 18), (8, .iload_n 2, 9, 0), (9, .ifCond .lt 9, 12, 18), (12, .iload_n 2, 13, 0), (13, .bipush 7, 15, 0), (15, .if_icmp .lt 7, 18, 22), (18, .iconst (-1), 19, 0), (19, .goto 14, 22, 33), (22, .aload_n 0, 23, 0), (23, .getfield 11, 26, 0), (26, .iload_n 1, 27, 0), (27, .bipush 7, 29, 0), (29, .imul, 30, 0), (30, .iload_n 2, 31, 0), (31, .iadd, 32, 0), (32, .iaload, 33, 0), (33, .ireturn, 34, 0)]
def M_Or_part : ax_M := (5, (some .int), tb_Or_part, [], false)
def m_Or_part : Nat := 50
def tb_Or_forget : List (Nat × Instr × Nat × Nat) := [(0, .aload_n 0, 1, 0), (1, .iconst 0, 2, 0), (2, .putfield 15, 5, 0), (5, .return_, 6, 0)]
def M_Or_forget : ax_M := (5, none, tb_Or_forget, [], false)
def m_Or_forget : Nat := 51
def tb_Qu_init : List (Nat × Instr × Nat × Nat) := [(0, .aload_n 0, 1, 0), (1, .invokespecial 3, 4, 0), (4, .aload_n 0, 5, 0), (5, .bipush 10, 7, 0), (7, .newarray .int, 9, 0), (9, .putfield 11, 12, 0), (12, .aload_n 0, 13, 0), (13, .bipush 10, 15, 0), (15, .anewarray 15, 18, 0), (18, .putfield 17, 21, 0), (21, .aload_n 0, 22, 0), (22, .bipush 10, 24, 0), (24, .newarray .long, 26, 0), (26, .putfield 21, 29, 0), (29, .return_, 30, 0)]
def M_Qu_init : ax_M := (6, none, tb_Qu_init, [], true)
def m_Qu_init : Nat := 52
def tb_Qu_add_1 : List (Nat × Instr × Nat × Nat) := [(0, .aload_n 0, 1, 0), (1, .getfield 25, 4, 0), (4, .bipush 10, 6, 0), (6, .if_icmp .lt 5, 9, 11), (9, .iconst (-1), 10, 0), (10, .ireturn, 11, 0), (11, .aload_n 0, 12, 0), (12, .getfield 11, 15, 0), (15, .aload_n 0, 16, 0), (16, .getfield 25, 19, 0), (19, .iload_n 1, 20, 0), (20, .iastore, 21, 0), (21, .aload_n 0, 22, 0), (22, .getfield 17, 25, 0), (25, .aload_n 0, 26, 0), (26, .getfield 25, 29, 0), (29, .aload_n 2, 30, 0), (30, .aastore, 31, 0), (31, .aload_n 0, 32, 0), (32, .getfield 21, 35, 0), (35, .aload_n 0, 36, 0), (36, .getfield 25, 39, 0), (39, .lload_n 3, 40, 0), (40, .lastore, 41, 0), (41, .aload_n 0, 42, 0), (42, .dup, 43, 0), (43, .getfield 25, 46, 0), (46, .iconst 1, 47, 0), (47, .iadd, 48, 0), (48, .putfield 25, 51, 0)]
def tb_Qu_add_2 : List (Nat × Instr × Nat × Nat) := [(51, .aload_n 0, 52, 0), (52, .getfield 25, 55, 0), (55, .iconst 1, 56, 0), (56, .isub, 57, 0), (57, .ireturn, 58, 0)]
def tb_Qu_add : List (Nat × Instr × Nat × Nat) := tb_Qu_add_1 ++ tb_Qu_add_2
def M_Qu_add : ax_M := (6, (some .int), tb_Qu_add, [], false)
def m_Qu_add : Nat := 53
def tb_Qu_latest : List (Nat × Instr × Nat × Nat) := [(0, .aload_n 0, 1, 0), (1, .getfield 25, 4, 0), (4, .iconst 1, 5, 0), (5, .isub, 6, 0), (6, .istore 4, 8, 0), (8, .iload 4, 10, 0), (10, .ifCond .lt 35, 13, 45), (13, .aload_n 0, 14, 0), (14, .getfield 11, 17, 0), (17, .iload 4, 19, 0), (19, .iaload, 20, 0), (20, .iload_n 1, 21, 0), (21, .if_icmp .ne 18, 24, 39), (24, .aload_n 0, 25, 0), (25, .getfield 21, 28, 0), (28, .iload 4, 30, 0), (30, .laload, 31, 0), (31, .lload_n 2, 32, 0), (32, .lcmp, 33, 0), (33, .ifCond .lt 6, 36, 39), (36, .iload 4, 38, 0), (38, .ireturn, 39, 0), (39, .iinc 4 (-1), 42, 0), (42, .goto (-34), 45, 8), (45, .iconst (-1), 46, 0), (46, .ireturn, 47, 0)]
def M_Qu_latest : ax_M := (6, (some .int), tb_Qu_latest, [], false)
def m_Qu_latest : Nat := 54
def tb_Qu_offerAt : List (Nat × Instr × Nat × Nat) := [(0, .iload_n 1, 1, 0), (1, .ifCond .lt 11, 4, 12), (4, .iload_n 1, 5, 0), (5, .aload_n 0, 6, 0), (6, .getfield 25, 9, 0), (9, .if_icmp .lt 7, 12, 16), (12, .aconst_null, 13, 0), (13, .goto 9, 16, 22), (16, .aload_n 0, 17, 0), (17, .getfield 17, 20, 0), (20, .iload_n 1, 21, 0), (21, .aaload, 22, 0), (22, .areturn, 23, 0)]
def M_Qu_offerAt : ax_M := (6, (some (.object "MakingLimits$Offer")), tb_Qu_offerAt, [], false)
def m_Qu_offerAt : Nat := 55
def tb_Qu_forget : List (Nat × Instr × Nat × Nat) := [(0, .aload_n 0, 1, 0), (1, .iconst 0, 2, 0), (2, .putfield 25, 5, 0), (5, .return_, 6, 0)]
def M_Qu_forget : ax_M := (6, none, tb_Qu_forget, [], false)
def m_Qu_forget : Nat := 56
def tb_Re_init : List (Nat × Instr × Nat × Nat) := [(0, .aload_n 0, 1, 0), (1, .invokespecial 3, 4, 0), (4, .aload_n 0, 5, 0), (5, .bipush 60, 7, 0), (7, .newarray .int, 9, 0), (9, .putfield 11, 12, 0), (12, .aload_n 0, 13, 0), (13, .bipush 60, 15, 0), (15, .newarray .int, 17, 0), (17, .putfield 17, 20, 0), (20, .return_, 21, 0)]
def M_Re_init : ax_M := (7, none, tb_Re_init, [], true)
def m_Re_init : Nat := 57
def tb_Re_collect_1 : List (Nat × Instr × Nat × Nat) := [(0, .aload_n 0, 1, 0), (1, .iconst 0, 2, 0), (2, .putfield 20, 5, 0), (5, .iconst 0, 6, 0), (6, .istore_n 3, 7, 0), (7, .iload_n 3, 8, 0), (8, .bipush 60, 10, 0), (10, .if_icmp .ge 53, 13, 63), (13, .aload_n 1, 14, 0), (14, .iload_n 3, 15, 0), (15, .aload_n 2, 16, 0), (16, .invokevirtual 24, 19, 0), (19, .istore 4, 21, 0), (21, .iload 4, 23, 0), (23, .ifCond .le 34, 26, 57), (26, .aload_n 0, 27, 0), (27, .getfield 11, 30, 0), (30, .aload_n 0, 31, 0), (31, .getfield 20, 34, 0), (34, .iload_n 3, 35, 0), (35, .iastore, 36, 0), (36, .aload_n 0, 37, 0), (37, .getfield 17, 40, 0), (40, .aload_n 0, 41, 0), (41, .getfield 20, 44, 0), (44, .iload 4, 46, 0), (46, .iastore, 47, 0), (47, .aload_n 0, 48, 0), (48, .dup, 49, 0), (49, .getfield 20, 52, 0)]
def tb_Re_collect_2 : List (Nat × Instr × Nat × Nat) := [(52, .iconst 1, 53, 0), (53, .iadd, 54, 0), (54, .putfield 20, 57, 0), (57, .iinc 3 1, 60, 0), (60, .goto (-53), 63, 7), (63, .aload_n 0, 64, 0), (64, .getfield 20, 67, 0), (67, .ireturn, 68, 0)]
def tb_Re_collect : List (Nat × Instr × Nat × Nat) := tb_Re_collect_1 ++ tb_Re_collect_2
def M_Re_collect : ax_M := (7, (some .int), tb_Re_collect, [], false)
def m_Re_collect : Nat := 58
def tb_Re_thingOf : List (Nat × Instr × Nat × Nat) := [(0, .iload_n 1, 1, 0), (1, .ifCond .lt 11, 4, 12), (4, .iload_n 1, 5, 0), (5, .aload_n 0, 6, 0), (6, .getfield 20, 9, 0), (9, .if_icmp .lt 7, 12, 16), (12, .iconst (-1), 13, 0), (13, .goto 9, 16, 22), (16, .aload_n 0, 17, 0), (17, .getfield 11, 20, 0), (20, .iload_n 1, 21, 0), (21, .iaload, 22, 0), (22, .ireturn, 23, 0)]
def M_Re_thingOf : ax_M := (7, (some .int), tb_Re_thingOf, [], false)
def m_Re_thingOf : Nat := 59
def tb_Re_excessOf : List (Nat × Instr × Nat × Nat) := [(0, .iload_n 1, 1, 0), (1, .ifCond .lt 11, 4, 12), (4, .iload_n 1, 5, 0), (5, .aload_n 0, 6, 0), (6, .getfield 20, 9, 0), (9, .if_icmp .lt 7, 12, 16), (12, .iconst (-1), 13, 0), (13, .goto 9, 16, 22), (16, .aload_n 0, 17, 0), (17, .getfield 17, 20, 0), (20, .iload_n 1, 21, 0), (21, .iaload, 22, 0), (22, .ireturn, 23, 0)]
def M_Re_excessOf : ax_M := (7, (some .int), tb_Re_excessOf, [], false)
def m_Re_excessOf : Nat := 60
def tb_Re_forget : List (Nat × Instr × Nat × Nat) := [(0, .aload_n 0, 1, 0), (1, .iconst 0, 2, 0), (2, .putfield 20, 5, 0), (5, .return_, 6, 0)]
def M_Re_forget : ax_M := (7, none, tb_Re_forget, [], false)
def m_Re_forget : Nat := 61
def tb_Tx_init : List (Nat × Instr × Nat × Nat) := [(0, .aload_n 0, 1, 0), (1, .invokespecial 3, 4, 0), (4, .aload_n 0, 5, 0), (5, .sipush 400, 8, 0), (8, .newarray .char, 10, 0), (10, .putfield 11, 13, 0), (13, .return_, 14, 0)]
def M_Tx_init : ax_M := (8, none, tb_Tx_init, [], true)
def m_Tx_init : Nat := 62
def tb_Tx_add : List (Nat × Instr × Nat × Nat) := [(0, .iload_n 1, 1, 0), (1, .bipush 32, 3, 0), (3, .if_icmp .lt 19, 6, 22), (6, .iload_n 1, 7, 0), (7, .bipush 126, 9, 0), (9, .if_icmp .gt 13, 12, 22), (12, .aload_n 0, 13, 0), (13, .getfield 15, 16, 0), (16, .sipush 400, 19, 0), (19, .if_icmp .lt 5, 22, 24), (22, .iconst 0, 23, 0), (23, .ireturn, 24, 0), (24, .aload_n 0, 25, 0), (25, .getfield 11, 28, 0), (28, .aload_n 0, 29, 0), (29, .getfield 15, 32, 0), (32, .iload_n 1, 33, 0), (33, .i2c, 34, 0), (34, .castore, 35, 0), (35, .aload_n 0, 36, 0), (36, .dup, 37, 0), (37, .getfield 15, 40, 0), (40, .iconst 1, 41, 0), (41, .iadd, 42, 0), (42, .putfield 15, 45, 0), (45, .iconst 1, 46, 0), (46, .ireturn, 47, 0)]
def M_Tx_add : ax_M := (8, (some .boolean), tb_Tx_add, [], false)
def m_Tx_add : Nat := 63
def tb_Tx_forget : List (Nat × Instr × Nat × Nat) := [(0, .aload_n 0, 1, 0), (1, .iconst 0, 2, 0), (2, .putfield 15, 5, 0), (5, .aload_n 0, 6, 0), (6, .iconst 0, 7, 0), (7, .putfield 19, 10, 0), (10, .return_, 11, 0)]
def M_Tx_forget : ax_M := (8, none, tb_Tx_forget, [], false)
def m_Tx_forget : Nat := 64
def tb_Tx_place : List (Nat × Instr × Nat × Nat) := [(0, .aload_n 0, 1, 0), (1, .getfield 19, 4, 0), (4, .ireturn, 5, 0)]
def M_Tx_place : ax_M := (8, (some .int), tb_Tx_place, [], false)
def m_Tx_place : Nat := 65
def tb_Tx_readNumber_1 : List (Nat × Instr × Nat × Nat) := [(0, .aload_n 0, 1, 0), (1, .iconst 0, 2, 0), (2, .putfield 19, 5, 0), (5, .aload_n 0, 6, 0), (6, .bipush 77, 8, 0), (8, .invokevirtual 22, 11, 0), (11, .ifCond .eq 13, 14, 24), (14, .aload_n 0, 15, 0), (15, .invokevirtual 26, 18, 0), (18, .invokestatic 30, 21, 0), (21, .ifCond .ne 5, 24, 26), (24, .iconst (-1), 25, 0), (25, .ireturn, 26, 0), (26, .aload_n 0, 27, 0), (27, .invokevirtual 26, 30, 0), (30, .bipush 48, 32, 0), (32, .isub, 33, 0), (33, .istore_n 2, 34, 0), (34, .iload_n 2, 35, 0), (35, .iload_n 1, 36, 0), (36, .if_icmp .gt 8, 39, 44), (39, .iload_n 2, 40, 0), (40, .iconst 4, 41, 0), (41, .if_icmp .lt 10, 44, 51), (44, .aload_n 0, 45, 0), (45, .iconst 0, 46, 0), (46, .putfield 19, 49, 0), (49, .iconst (-1), 50, 0), (50, .ireturn, 51, 0), (51, .aload_n 0, 52, 0)]
def tb_Tx_readNumber_2 : List (Nat × Instr × Nat × Nat) := [(52, .dup, 53, 0), (53, .getfield 19, 56, 0), (56, .iconst 1, 57, 0), (57, .iadd, 58, 0), (58, .putfield 19, 61, 0), (61, .iload_n 2, 62, 0), (62, .ireturn, 63, 0)]
def tb_Tx_readNumber : List (Nat × Instr × Nat × Nat) := tb_Tx_readNumber_1 ++ tb_Tx_readNumber_2
def M_Tx_readNumber : ax_M := (8, (some .int), tb_Tx_readNumber, [], false)
def m_Tx_readNumber : Nat := 66
def tb_Tx_readOffer_1 : List (Nat × Instr × Nat × Nat) := [(0, .new 34, 3, 0), (3, .dup, 4, 0), (4, .invokespecial 36, 7, 0), (7, .astore_n 1, 8, 0), (8, .iconst 0, 9, 0), (9, .istore_n 2, 10, 0), (10, .iload_n 2, 11, 0), (11, .iconst 4, 12, 0), (12, .if_icmp .gt 64, 15, 76), (15, .aload_n 0, 16, 0), (16, .getfield 19, 19, 0), (19, .istore_n 3, 20, 0), (20, .aload_n 0, 21, 0), (21, .invokevirtual 37, 24, 0), (24, .astore 4, 26, 0), (26, .aload 4, 28, 0), (28, .ifnonnull 5, 31, 33), (31, .aconst_null, 32, 0), (32, .areturn, 33, 0), (33, .aload 4, 35, 0), (35, .getfield 41, 38, 0), (38, .ifCond .eq 12, 41, 50), (41, .aload_n 1, 42, 0), (42, .aload 4, 44, 0), (44, .invokevirtual 47, 47, 0), (47, .ifCond .ne 10, 50, 57), (50, .aload_n 0, 51, 0), (51, .iload_n 3, 52, 0), (52, .putfield 19, 55, 0), (55, .aconst_null, 56, 0)]
def tb_Tx_readOffer_2 : List (Nat × Instr × Nat × Nat) := [(56, .areturn, 57, 0), (57, .aload_n 0, 58, 0), (58, .getfield 19, 61, 0), (61, .aload_n 0, 62, 0), (62, .getfield 15, 65, 0), (65, .if_icmp .lt 5, 68, 70), (68, .aload_n 1, 69, 0), (69, .areturn, 70, 0), (70, .iinc 2 1, 73, 0), (73, .goto (-63), 76, 10), (76, .aconst_null, 77, 0), (77, .areturn, 78, 0)]
def tb_Tx_readOffer : List (Nat × Instr × Nat × Nat) := tb_Tx_readOffer_1 ++ tb_Tx_readOffer_2
def M_Tx_readOffer : ax_M := (8, (some (.object "MakingLimits$Offer")), tb_Tx_readOffer, [], false)
def m_Tx_readOffer : Nat := 67
def tb_Tx_readGrade_1 : List (Nat × Instr × Nat × Nat) := [(0, .aload_n 0, 1, 0), (1, .bipush 67, 3, 0), (3, .invokevirtual 22, 6, 0), (6, .ifCond .ne 5, 9, 11), (9, .aconst_null, 10, 0), (10, .areturn, 11, 0), (11, .new 42, 14, 0), (14, .dup, 15, 0), (15, .invokespecial 51, 18, 0), (18, .astore_n 1, 19, 0), (19, .aload_n 0, 20, 0), (20, .aload_n 1, 21, 0), (21, .invokevirtual 52, 24, 0), (24, .ifCond .eq 50, 27, 74), (27, .aload_n 0, 28, 0), (28, .bipush 58, 30, 0), (30, .invokevirtual 22, 33, 0), (33, .ifCond .eq 41, 36, 74), (36, .aload_n 0, 37, 0), (37, .aload_n 1, 38, 0), (38, .invokevirtual 55, 41, 0), (41, .ifCond .eq 33, 44, 74), (44, .aload_n 0, 45, 0), (45, .bipush 47, 47, 0), (47, .invokevirtual 22, 50, 0), (50, .ifCond .eq 24, 53, 74), (53, .aload_n 0, 54, 0), (54, .aload_n 1, 55, 0), (55, .invokevirtual 58, 58, 0), (58, .ifCond .eq 16, 61, 74)]
def tb_Tx_readGrade_2 : List (Nat × Instr × Nat × Nat) := [(61, .aload_n 0, 62, 0), (62, .bipush 59, 64, 0), (64, .invokevirtual 22, 67, 0), (67, .ifCond .eq 7, 70, 74), (70, .iconst 1, 71, 0), (71, .goto 4, 74, 75), (74, .iconst 0, 75, 0), (75, .istore_n 2, 76, 0), (76, .iload_n 2, 77, 0), (77, .ifCond .eq 7, 80, 84), (80, .aload_n 1, 81, 0), (81, .goto 4, 84, 85), (84, .aconst_null, 85, 0), (85, .areturn, 86, 0)]
def tb_Tx_readGrade : List (Nat × Instr × Nat × Nat) := tb_Tx_readGrade_1 ++ tb_Tx_readGrade_2
def M_Tx_readGrade : ax_M := (8, (some (.object "MakingLimits$Grade")), tb_Tx_readGrade, [], false)
def m_Tx_readGrade : Nat := 68
def tb_Tx_readLimits : List (Nat × Instr × Nat × Nat) := [(0, .iconst 0, 1, 0), (1, .istore_n 2, 2, 0), (2, .iload_n 2, 3, 0), (3, .bipush 6, 5, 0), (5, .if_icmp .ge 42, 8, 47), (8, .iload_n 2, 9, 0), (9, .ifCond .le 14, 12, 23), (12, .aload_n 0, 13, 0), (13, .bipush 44, 15, 0), (15, .invokevirtual 22, 18, 0), (18, .ifCond .ne 5, 21, 23), (21, .iconst 0, 22, 0), (22, .ireturn, 23, 0), (23, .aload_n 0, 24, 0), (24, .invokevirtual 61, 27, 0), (27, .istore_n 3, 28, 0), (28, .iload_n 3, 29, 0), (29, .iconst (-1), 30, 0), (30, .if_icmp .ne 5, 33, 35), (33, .iconst 0, 34, 0), (34, .ireturn, 35, 0), (35, .aload_n 1, 36, 0), (36, .iload_n 2, 37, 0), (37, .iload_n 3, 38, 0), (38, .invokevirtual 64, 41, 0), (41, .iinc 2 1, 44, 0), (44, .goto (-42), 47, 2), (47, .iconst 1, 48, 0), (48, .ireturn, 49, 0)]
def M_Tx_readLimits : ax_M := (8, (some .boolean), tb_Tx_readLimits, [], false)
def m_Tx_readLimits : Nat := 69
def tb_Tx_readSteps_1 : List (Nat × Instr × Nat × Nat) := [(0, .iconst 0, 1, 0), (1, .istore_n 2, 2, 0), (2, .iload_n 2, 3, 0), (3, .sipush 400, 6, 0), (6, .if_icmp .ge 62, 9, 68), (9, .aload_n 0, 10, 0), (10, .invokevirtual 61, 13, 0), (13, .istore_n 3, 14, 0), (14, .iload_n 3, 15, 0), (15, .iconst (-1), 16, 0), (16, .if_icmp .eq 12, 19, 28), (19, .aload_n 0, 20, 0), (20, .bipush 64, 22, 0), (22, .invokevirtual 22, 25, 0), (25, .ifCond .ne 5, 28, 30), (28, .iconst 0, 29, 0), (29, .ireturn, 30, 0), (30, .aload_n 0, 31, 0), (31, .invokevirtual 61, 34, 0), (34, .istore 4, 36, 0), (36, .iload 4, 38, 0), (38, .iconst (-1), 39, 0), (39, .if_icmp .ne 5, 42, 44), (42, .iconst 0, 43, 0), (43, .ireturn, 44, 0), (44, .aload_n 1, 45, 0), (45, .iload_n 3, 46, 0), (46, .iload 4, 48, 0), (48, .invokevirtual 68, 51, 0), (51, .aload_n 0, 52, 0)]
def tb_Tx_readSteps_2 : List (Nat × Instr × Nat × Nat) := [(52, .bipush 44, 54, 0), (54, .invokevirtual 22, 57, 0), (57, .ifCond .ne 5, 60, 62), (60, .iconst 1, 61, 0), (61, .ireturn, 62, 0), (62, .iinc 2 1, 65, 0), (65, .goto (-63), 68, 2), (68, .iconst 0, 69, 0), (69, .ireturn, 70, 0)]
def tb_Tx_readSteps : List (Nat × Instr × Nat × Nat) := tb_Tx_readSteps_1 ++ tb_Tx_readSteps_2
def M_Tx_readSteps : ax_M := (8, (some .boolean), tb_Tx_readSteps, [], false)
def m_Tx_readSteps : Nat := 70
def tb_Tx_readDays : List (Nat × Instr × Nat × Nat) := [(0, .aload_n 0, 1, 0), (1, .invokevirtual 61, 4, 0), (4, .istore_n 2, 5, 0), (5, .iload_n 2, 6, 0), (6, .iconst (-1), 7, 0), (7, .if_icmp .ne 5, 10, 12), (10, .iconst 0, 11, 0), (11, .ireturn, 12, 0), (12, .aload_n 1, 13, 0), (13, .iload_n 2, 14, 0), (14, .invokevirtual 71, 17, 0), (17, .iconst 1, 18, 0), (18, .ireturn, 19, 0)]
def M_Tx_readDays : ax_M := (8, (some .boolean), tb_Tx_readDays, [], false)
def m_Tx_readDays : Nat := 71
def tb_Tx_readWhole_1 : List (Nat × Instr × Nat × Nat) := [(0, .aload_n 0, 1, 0), (1, .invokevirtual 26, 4, 0), (4, .invokestatic 30, 7, 0), (7, .ifCond .ne 5, 10, 12), (10, .iconst (-1), 11, 0), (11, .ireturn, 12, 0), (12, .iconst 0, 13, 0), (13, .istore_n 1, 14, 0), (14, .iconst 0, 15, 0), (15, .istore_n 2, 16, 0), (16, .iload_n 2, 17, 0), (17, .bipush 7, 19, 0), (19, .if_icmp .ge 42, 22, 61), (22, .aload_n 0, 23, 0), (23, .invokevirtual 26, 26, 0), (26, .invokestatic 30, 29, 0), (29, .ifCond .eq 32, 32, 61), (32, .iload_n 1, 33, 0), (33, .bipush 10, 35, 0), (35, .imul, 36, 0), (36, .aload_n 0, 37, 0), (37, .invokevirtual 26, 40, 0), (40, .bipush 48, 42, 0), (42, .isub, 43, 0), (43, .iadd, 44, 0), (44, .istore_n 1, 45, 0), (45, .aload_n 0, 46, 0), (46, .dup, 47, 0), (47, .getfield 19, 50, 0), (50, .iconst 1, 51, 0)]
def tb_Tx_readWhole_2 : List (Nat × Instr × Nat × Nat) := [(51, .iadd, 52, 0), (52, .putfield 19, 55, 0), (55, .iinc 2 1, 58, 0), (58, .goto (-42), 61, 16), (61, .iload_n 1, 62, 0), (62, .ireturn, 63, 0)]
def tb_Tx_readWhole : List (Nat × Instr × Nat × Nat) := tb_Tx_readWhole_1 ++ tb_Tx_readWhole_2
def M_Tx_readWhole : ax_M := (8, (some .int), tb_Tx_readWhole, [], false)
def m_Tx_readWhole : Nat := 72
def tb_Tx_passes : List (Nat × Instr × Nat × Nat) := [(0, .aload_n 0, 1, 0), (1, .invokevirtual 26, 4, 0), (4, .iload_n 1, 5, 0), (5, .if_icmp .eq 5, 8, 10), (8, .iconst 0, 9, 0), (9, .ireturn, 10, 0), (10, .aload_n 0, 11, 0), (11, .dup, 12, 0), (12, .getfield 19, 15, 0), (15, .iconst 1, 16, 0), (16, .iadd, 17, 0), (17, .putfield 19, 20, 0), (20, .iconst 1, 21, 0), (21, .ireturn, 22, 0)]
def M_Tx_passes : ax_M := (8, (some .boolean), tb_Tx_passes, [], false)
def m_Tx_passes : Nat := 73
def tb_Tx_next : List (Nat × Instr × Nat × Nat) := [(0, .aload_n 0, 1, 0), (1, .getfield 19, 4, 0), (4, .ifCond .lt 14, 7, 18), (7, .aload_n 0, 8, 0), (8, .getfield 19, 11, 0), (11, .aload_n 0, 12, 0), (12, .getfield 15, 15, 0), (15, .if_icmp .lt 7, 18, 22), (18, .iconst (-1), 19, 0), (19, .goto 12, 22, 31), (22, .aload_n 0, 23, 0), (23, .getfield 11, 26, 0), (26, .aload_n 0, 27, 0), (27, .getfield 19, 30, 0), (30, .caload, 31, 0), (31, .ireturn, 32, 0)]
def M_Tx_next : ax_M := (8, (some .int), tb_Tx_next, [], false)
def m_Tx_next : Nat := 74
def tb_Tx_isDigit : List (Nat × Instr × Nat × Nat) := [(0, .iload_n 0, 1, 0), (1, .bipush 48, 3, 0), (3, .if_icmp .lt 13, 6, 16), (6, .iload_n 0, 7, 0), (7, .bipush 57, 9, 0), (9, .if_icmp .gt 7, 12, 16), (12, .iconst 1, 13, 0), (13, .goto 4, 16, 17), (16, .iconst 0, 17, 0), (17, .ireturn, 18, 0)]
def M_Tx_isDigit : ax_M := (8, (some .boolean), tb_Tx_isDigit, [], false)
def m_Tx_isDigit : Nat := 75
def tb_Mo_init_1 : List (Nat × Instr × Nat × Nat) := [(0, .aload_n 0, 1, 0), (1, .invokespecial 1, 4, 0), (4, .aload_n 0, 5, 0), (5, .sipush 400, 8, 0), (8, .newarray .int, 10, 0), (10, .putfield 7, 13, 0), (13, .aload_n 0, 14, 0), (14, .bipush 15, 16, 0), (16, .newarray .int, 18, 0), (18, .putfield 13, 21, 0), (21, .aload_n 0, 22, 0), (22, .sipush 960, 25, 0), (25, .newarray .long, 27, 0), (27, .putfield 16, 30, 0), (30, .aload_n 0, 31, 0), (31, .bipush 60, 33, 0), (33, .newarray .int, 35, 0), (35, .putfield 20, 38, 0), (38, .aload_n 0, 39, 0), (39, .bipush 60, 41, 0), (41, .newarray .long, 43, 0), (43, .putfield 23, 46, 0), (46, .aload_n 0, 47, 0), (47, .bipush 60, 49, 0), (49, .newarray .int, 51, 0), (51, .putfield 26, 54, 0), (54, .aload_n 0, 55, 0), (55, .bipush 60, 57, 0), (57, .newarray .long, 59, 0), (59, .putfield 29, 62, 0)]
def tb_Mo_init_2 : List (Nat × Instr × Nat × Nat) := [(62, .aload_n 0, 63, 0), (63, .bipush 60, 65, 0), (65, .newarray .long, 67, 0), (67, .putfield 32, 70, 0), (70, .aload_n 0, 71, 0), (71, .bipush 60, 73, 0), (73, .newarray .int, 75, 0), (75, .putfield 35, 78, 0), (78, .aload_n 0, 79, 0), (79, .bipush 60, 81, 0), (81, .newarray .long, 83, 0), (83, .putfield 38, 86, 0), (86, .aload_n 0, 87, 0), (87, .bipush 10, 89, 0), (89, .newarray .int, 91, 0), (91, .putfield 41, 94, 0), (94, .aload_n 0, 95, 0), (95, .bipush 10, 97, 0), (97, .newarray .long, 99, 0), (99, .putfield 44, 102, 0), (102, .aload_n 0, 103, 0), (103, .sipush 140, 106, 0), (106, .newarray .long, 108, 0), (108, .putfield 47, 111, 0), (111, .aload_n 0, 112, 0), (112, .sipush 128, 115, 0), (115, .newarray .long, 117, 0), (117, .putfield 50, 120, 0), (120, .aload_n 0, 121, 0), (121, .sipush 128, 124, 0)]
def tb_Mo_init_3 : List (Nat × Instr × Nat × Nat) := [(124, .newarray .long, 126, 0), (126, .putfield 53, 129, 0), (129, .aload_n 0, 130, 0), (130, .invokevirtual 56, 133, 0), (133, .return_, 134, 0)]
def tb_Mo_init : List (Nat × Instr × Nat × Nat) := tb_Mo_init_1 ++ (tb_Mo_init_2 ++ tb_Mo_init_3)
def M_Mo_init : ax_M := (9, none, tb_Mo_init, [], true)
def m_Mo_init : Nat := 76
def tb_Mo_empty_1 : List (Nat × Instr × Nat × Nat) := [(0, .aload_n 0, 1, 0), (1, .iconst 0, 2, 0), (2, .putfield 59, 5, 0), (5, .aload_n 0, 6, 0), (6, .iconst 0, 7, 0), (7, .putfield 63, 10, 0), (10, .aload_n 0, 11, 0), (11, .iconst 0, 12, 0), (12, .putfield 66, 15, 0), (15, .aload_n 0, 16, 0), (16, .iconst 0, 17, 0), (17, .putfield 69, 20, 0), (20, .aload_n 0, 21, 0), (21, .iconst 0, 22, 0), (22, .putfield 72, 25, 0), (25, .aload_n 0, 26, 0), (26, .iconst 0, 27, 0), (27, .putfield 75, 30, 0), (30, .iconst 0, 31, 0), (31, .istore_n 1, 32, 0), (32, .iload_n 1, 33, 0), (33, .sipush 128, 36, 0), (36, .if_icmp .ge 23, 39, 59), (39, .aload_n 0, 40, 0), (40, .getfield 50, 43, 0), (43, .iload_n 1, 44, 0), (44, .lconst 0, 45, 0), (45, .lastore, 46, 0), (46, .aload_n 0, 47, 0), (47, .getfield 53, 50, 0)]
def tb_Mo_empty_2 : List (Nat × Instr × Nat × Nat) := [(50, .iload_n 1, 51, 0), (51, .lconst 1, 52, 0), (52, .lastore, 53, 0), (53, .iinc 1 1, 56, 0), (56, .goto (-24), 59, 32), (59, .return_, 60, 0)]
def tb_Mo_empty : List (Nat × Instr × Nat × Nat) := tb_Mo_empty_1 ++ tb_Mo_empty_2
def M_Mo_empty : ax_M := (9, none, tb_Mo_empty, [], false)
def m_Mo_empty : Nat := 77
def tb_Mo_thrown : List (Nat × Instr × Nat × Nat) := [(0, .aload_n 0, 1, 0), (1, .getfield 78, 4, 0), (4, .ireturn, 5, 0)]
def M_Mo_thrown : ax_M := (9, (some .int), tb_Mo_thrown, [], false)
def m_Mo_thrown : Nat := 78
def tb_Mo_clear : List (Nat × Instr × Nat × Nat) := [(0, .aload_n 0, 1, 0), (1, .iconst 0, 2, 0), (2, .putfield 78, 5, 0), (5, .aload_n 0, 6, 0), (6, .invokevirtual 56, 9, 0), (9, .return_, 10, 0)]
def M_Mo_clear : ax_M := (9, none, tb_Mo_clear, [], false)
def m_Mo_clear : Nat := 79
def tb_Mo_unit : List (Nat × Instr × Nat × Nat) := [(0, .aload_n 0, 1, 0), (1, .iconst 0, 2, 0), (2, .putfield 78, 5, 0), (5, .iload_n 1, 6, 0), (6, .bipush 32, 8, 0), (8, .if_icmp .lt 19, 11, 27), (11, .iload_n 1, 12, 0), (12, .bipush 126, 14, 0), (14, .if_icmp .gt 13, 17, 27), (17, .aload_n 0, 18, 0), (18, .getfield 59, 21, 0), (21, .sipush 400, 24, 0), (24, .if_icmp .ne 5, 27, 29), (27, .iconst 0, 28, 0), (28, .ireturn, 29, 0), (29, .aload_n 0, 30, 0), (30, .getfield 7, 33, 0), (33, .aload_n 0, 34, 0), (34, .getfield 59, 37, 0), (37, .iload_n 1, 38, 0), (38, .iastore, 39, 0), (39, .aload_n 0, 40, 0), (40, .dup, 41, 0), (41, .getfield 59, 44, 0), (44, .iconst 1, 45, 0), (45, .iadd, 46, 0), (46, .putfield 59, 49, 0), (49, .iconst 1, 50, 0), (50, .ireturn, 51, 0)]
def M_Mo_unit : ax_M := (9, (some .boolean), tb_Mo_unit, [], false)
def m_Mo_unit : Nat := 80
def tb_Mo_now : List (Nat × Instr × Nat × Nat) := [(0, .aload_n 0, 1, 0), (1, .getfield 81, 4, 0), (4, .aload_n 0, 5, 0), (5, .getfield 59, 8, 0), (8, .if_icmp .ge 15, 11, 23), (11, .aload_n 0, 12, 0), (12, .getfield 7, 15, 0), (15, .aload_n 0, 16, 0), (16, .getfield 81, 19, 0), (19, .iaload, 20, 0), (20, .goto 4, 23, 24), (23, .iconst (-1), 24, 0), (24, .ireturn, 25, 0)]
def M_Mo_now : ax_M := (9, (some .int), tb_Mo_now, [], false)
def m_Mo_now : Nat := 81
def tb_Mo_expect : List (Nat × Instr × Nat × Nat) := [(0, .aload_n 0, 1, 0), (1, .getfield 84, 4, 0), (4, .iconst (-1), 5, 0), (5, .if_icmp .eq 4, 8, 9), (8, .return_, 9, 0), (9, .aload_n 0, 10, 0), (10, .invokevirtual 87, 13, 0), (13, .iload_n 1, 14, 0), (14, .if_icmp .ne 16, 17, 30), (17, .aload_n 0, 18, 0), (18, .dup, 19, 0), (19, .getfield 81, 22, 0), (22, .iconst 1, 23, 0), (23, .iadd, 24, 0), (24, .putfield 81, 27, 0), (27, .goto 11, 30, 38), (30, .aload_n 0, 31, 0), (31, .aload_n 0, 32, 0), (32, .getfield 81, 35, 0), (35, .putfield 84, 38, 0), (38, .return_, 39, 0)]
def M_Mo_expect : ax_M := (9, none, tb_Mo_expect, [], false)
def m_Mo_expect : Nat := 82
def tb_Mo_isDigit : List (Nat × Instr × Nat × Nat) := [(0, .aload_n 0, 1, 0), (1, .invokevirtual 87, 4, 0), (4, .bipush 48, 6, 0), (6, .if_icmp .lt 16, 9, 22), (9, .aload_n 0, 10, 0), (10, .invokevirtual 87, 13, 0), (13, .bipush 57, 15, 0), (15, .if_icmp .gt 7, 18, 22), (18, .iconst 1, 19, 0), (19, .goto 4, 22, 23), (22, .iconst 0, 23, 0), (23, .ireturn, 24, 0)]
def M_Mo_isDigit : ax_M := (9, (some .boolean), tb_Mo_isDigit, [], false)
def m_Mo_isDigit : Nat := 83
def tb_Mo_whole_1 : List (Nat × Instr × Nat × Nat) := [(0, .lconst 0, 1, 0), (1, .lstore_n 1, 2, 0), (2, .iconst 0, 3, 0), (3, .istore_n 3, 4, 0), (4, .aload_n 0, 5, 0), (5, .getfield 84, 8, 0), (8, .iconst (-1), 9, 0), (9, .if_icmp .ne 48, 12, 57), (12, .iload_n 3, 13, 0), (13, .bipush 7, 15, 0), (15, .if_icmp .ge 42, 18, 57), (18, .aload_n 0, 19, 0), (19, .invokevirtual 91, 22, 0), (22, .ifCond .eq 35, 25, 57), (25, .ldc2_w 95, 28, 0), (28, .lload_n 1, 29, 0), (29, .lmul, 30, 0), (30, .aload_n 0, 31, 0), (31, .invokevirtual 87, 34, 0), (34, .i2l, 35, 0), (35, .ladd, 36, 0), (36, .ldc2_w 97, 39, 0), (39, .lsub, 40, 0), (40, .lstore_n 1, 41, 0), (41, .iinc 3 1, 44, 0), (44, .aload_n 0, 45, 0), (45, .dup, 46, 0), (46, .getfield 81, 49, 0), (49, .iconst 1, 50, 0), (50, .iadd, 51, 0)]
def tb_Mo_whole_2 : List (Nat × Instr × Nat × Nat) := [(51, .putfield 81, 54, 0), (54, .goto (-50), 57, 4), (57, .aload_n 0, 58, 0), (58, .getfield 84, 61, 0), (61, .iconst (-1), 62, 0), (62, .if_icmp .ne 22, 65, 84), (65, .iload_n 3, 66, 0), (66, .ifCond .eq 10, 69, 76), (69, .aload_n 0, 70, 0), (70, .invokevirtual 91, 73, 0), (73, .ifCond .eq 11, 76, 84), (76, .aload_n 0, 77, 0), (77, .aload_n 0, 78, 0), (78, .getfield 81, 81, 0), (81, .putfield 84, 84, 0), (84, .lload_n 1, 85, 0), (85, .lreturn, 86, 0)]
def tb_Mo_whole : List (Nat × Instr × Nat × Nat) := tb_Mo_whole_1 ++ tb_Mo_whole_2
def M_Mo_whole : ax_M := (9, (some .long), tb_Mo_whole, [], false)
def m_Mo_whole : Nat := 84
def tb_Mo_place : List (Nat × Instr × Nat × Nat) := [(0, .bipush 16, 2, 0), (2, .iconst 4, 3, 0), (3, .iload_n 0, 4, 0), (4, .imul, 5, 0), (5, .iload_n 1, 6, 0), (6, .iadd, 7, 0), (7, .imul, 8, 0), (8, .ireturn, 9, 0)]
def M_Mo_place : ax_M := (9, (some .int), tb_Mo_place, [], false)
def m_Mo_place : Nat := 85
def tb_Mo_readClass_1 : List (Nat × Instr × Nat × Nat) := [(0, .aload_n 0, 1, 0), (1, .getfield 81, 4, 0), (4, .istore_n 2, 5, 0), (5, .iload_n 1, 6, 0), (6, .iconst 4, 7, 0), (7, .if_icmp .ge 12, 10, 19), (10, .bipush 14, 12, 0), (12, .iload_n 1, 13, 0), (13, .invokestatic 99, 16, 0), (16, .goto 9, 19, 25), (19, .bipush 14, 21, 0), (21, .iconst 3, 22, 0), (22, .invokestatic 99, 25, 0), (25, .istore_n 3, 26, 0), (26, .iload_n 1, 27, 0), (27, .iconst 4, 28, 0), (28, .if_icmp .ge 7, 31, 35), (31, .iconst 1, 32, 0), (32, .goto 4, 35, 36), (35, .iconst 0, 36, 0), (36, .istore 4, 38, 0), (38, .aload_n 0, 39, 0), (39, .bipush 67, 41, 0), (41, .invokevirtual 103, 44, 0), (44, .iconst 0, 45, 0), (45, .istore 5, 47, 0), (47, .iload 5, 49, 0), (49, .bipush 6, 51, 0), (51, .if_icmp .ge 63, 54, 114), (54, .iload 5, 56, 0)]
def tb_Mo_readClass_2 : List (Nat × Instr × Nat × Nat) := [(56, .ifCond .le 9, 59, 65), (59, .aload_n 0, 60, 0), (60, .bipush 44, 62, 0), (62, .invokevirtual 103, 65, 0), (65, .aload_n 0, 66, 0), (66, .invokevirtual 107, 69, 0), (69, .lstore 6, 71, 0), (71, .iload 4, 73, 0), (73, .ifCond .eq 16, 76, 89), (76, .lload 6, 78, 0), (78, .ldc2_w 111, 81, 0), (81, .lcmp, 82, 0), (82, .ifCond .gt 7, 85, 89), (85, .iconst 1, 86, 0), (86, .goto 4, 89, 90), (89, .iconst 0, 90, 0), (90, .istore 4, 92, 0), (92, .iload_n 1, 93, 0), (93, .iconst 4, 94, 0), (94, .if_icmp .ge 14, 97, 108), (97, .aload_n 0, 98, 0), (98, .getfield 16, 101, 0), (101, .iload_n 3, 102, 0), (102, .iload 5, 104, 0), (104, .iadd, 105, 0), (105, .lload 6, 107, 0), (107, .lastore, 108, 0), (108, .iinc 5 1, 111, 0), (111, .goto (-64), 114, 47), (114, .aload_n 0, 115, 0)]
def tb_Mo_readClass_3 : List (Nat × Instr × Nat × Nat) := [(115, .bipush 58, 117, 0), (117, .invokevirtual 103, 120, 0), (120, .iconst 0, 121, 0), (121, .istore 5, 123, 0), (123, .lconst 0, 124, 0), (124, .lstore 6, 126, 0), (126, .iconst 1, 127, 0), (127, .istore 8, 129, 0), (129, .aload_n 0, 130, 0), (130, .getfield 84, 133, 0), (133, .iconst (-1), 134, 0), (134, .if_icmp .ne 151, 137, 285), (137, .iload 8, 139, 0), (139, .ifCond .eq 146, 142, 285), (142, .iload 5, 144, 0), (144, .ifCond .le 9, 147, 153), (147, .aload_n 0, 148, 0), (148, .bipush 44, 150, 0), (150, .invokevirtual 103, 153, 0), (153, .aload_n 0, 154, 0), (154, .invokevirtual 107, 157, 0), (157, .lstore 9, 159, 0), (159, .aload_n 0, 160, 0), (160, .bipush 64, 162, 0), (162, .invokevirtual 103, 165, 0), (165, .aload_n 0, 166, 0), (166, .invokevirtual 107, 169, 0), (169, .lstore 11, 171, 0), (171, .iload 4, 173, 0), (173, .ifCond .eq 46, 176, 219)]
def tb_Mo_readClass_4 : List (Nat × Instr × Nat × Nat) := [(176, .iload 5, 178, 0), (178, .iconst 4, 179, 0), (179, .if_icmp .ge 40, 182, 219), (182, .lload 9, 184, 0), (184, .lload 6, 186, 0), (186, .lcmp, 187, 0), (187, .ifCond .le 32, 190, 219), (190, .lload 9, 192, 0), (192, .ldc2_w 111, 195, 0), (195, .lcmp, 196, 0), (196, .ifCond .gt 23, 199, 219), (199, .lload 11, 201, 0), (201, .lconst 1, 202, 0), (202, .lcmp, 203, 0), (203, .ifCond .lt 16, 206, 219), (206, .lload 11, 208, 0), (208, .ldc2_w 111, 211, 0), (211, .lcmp, 212, 0), (212, .ifCond .gt 7, 215, 219), (215, .iconst 1, 216, 0), (216, .goto 4, 219, 220), (219, .iconst 0, 220, 0), (220, .istore 4, 222, 0), (222, .iload 4, 224, 0), (224, .ifCond .eq 35, 227, 259), (227, .aload_n 0, 228, 0), (228, .getfield 16, 231, 0), (231, .iload_n 3, 232, 0), (232, .bipush 8, 234, 0), (234, .iadd, 235, 0)]
def tb_Mo_readClass_5 : List (Nat × Instr × Nat × Nat) := [(235, .iconst 2, 236, 0), (236, .iload 5, 238, 0), (238, .imul, 239, 0), (239, .iadd, 240, 0), (240, .lload 9, 242, 0), (242, .lastore, 243, 0), (243, .aload_n 0, 244, 0), (244, .getfield 16, 247, 0), (247, .iload_n 3, 248, 0), (248, .bipush 9, 250, 0), (250, .iadd, 251, 0), (251, .iconst 2, 252, 0), (252, .iload 5, 254, 0), (254, .imul, 255, 0), (255, .iadd, 256, 0), (256, .lload 11, 258, 0), (258, .lastore, 259, 0), (259, .lload 9, 261, 0), (261, .lstore 6, 263, 0), (263, .iinc 5 1, 266, 0), (266, .aload_n 0, 267, 0), (267, .invokevirtual 87, 270, 0), (270, .bipush 44, 272, 0), (272, .if_icmp .ne 7, 275, 279), (275, .iconst 1, 276, 0), (276, .goto 4, 279, 280), (279, .iconst 0, 280, 0), (280, .istore 8, 282, 0), (282, .goto (-153), 285, 129), (285, .aload_n 0, 286, 0)]
def tb_Mo_readClass_6 : List (Nat × Instr × Nat × Nat) := [(286, .bipush 47, 288, 0), (288, .invokevirtual 103, 291, 0), (291, .aload_n 0, 292, 0), (292, .invokevirtual 107, 295, 0), (295, .lstore 9, 297, 0), (297, .aload_n 0, 298, 0), (298, .bipush 59, 300, 0), (300, .invokevirtual 103, 303, 0), (303, .iload 4, 305, 0), (305, .ifCond .eq 16, 308, 321), (308, .lload 9, 310, 0), (310, .ldc2_w 113, 313, 0), (313, .lcmp, 314, 0), (314, .ifCond .gt 7, 317, 321), (317, .iconst 1, 318, 0), (318, .goto 4, 321, 322), (321, .iconst 0, 322, 0), (322, .istore 4, 324, 0), (324, .aload_n 0, 325, 0), (325, .getfield 84, 328, 0), (328, .iconst (-1), 329, 0), (329, .if_icmp .eq 4, 332, 333), (332, .return_, 333, 0), (333, .iload 4, 335, 0), (335, .ifCond .ne 9, 338, 344), (338, .aload_n 0, 339, 0), (339, .iload_n 2, 340, 0), (340, .putfield 84, 343, 0), (343, .return_, 344, 0), (344, .aload_n 0, 345, 0)]
def tb_Mo_readClass_7 : List (Nat × Instr × Nat × Nat) := [(345, .getfield 16, 348, 0), (348, .iload_n 3, 349, 0), (349, .bipush 6, 351, 0), (351, .iadd, 352, 0), (352, .iload 5, 354, 0), (354, .i2l, 355, 0), (355, .lastore, 356, 0), (356, .aload_n 0, 357, 0), (357, .getfield 16, 360, 0), (360, .iload_n 3, 361, 0), (361, .bipush 7, 363, 0), (363, .iadd, 364, 0), (364, .lload 9, 366, 0), (366, .lastore, 367, 0), (367, .aload_n 0, 368, 0), (368, .getfield 13, 371, 0), (371, .bipush 14, 373, 0), (373, .iload_n 1, 374, 0), (374, .iconst 1, 375, 0), (375, .iadd, 376, 0), (376, .iastore, 377, 0), (377, .return_, 378, 0)]
def tb_Mo_readClass : List (Nat × Instr × Nat × Nat) := tb_Mo_readClass_1 ++ (tb_Mo_readClass_2 ++ (tb_Mo_readClass_3 ++ (tb_Mo_readClass_4 ++ (tb_Mo_readClass_5 ++ (tb_Mo_readClass_6 ++ tb_Mo_readClass_7)))))
def M_Mo_readClass : ax_M := (9, none, tb_Mo_readClass, [], false)
def m_Mo_readClass : Nat := 86
def tb_Mo_copyClasses_1 : List (Nat × Instr × Nat × Nat) := [(0, .aload_n 0, 1, 0), (1, .getfield 13, 4, 0), (4, .iload_n 2, 5, 0), (5, .aload_n 0, 6, 0), (6, .getfield 13, 9, 0), (9, .iload_n 1, 10, 0), (10, .iaload, 11, 0), (11, .iastore, 12, 0), (12, .iconst 0, 13, 0), (13, .istore_n 3, 14, 0), (14, .iload_n 3, 15, 0), (15, .bipush 64, 17, 0), (17, .if_icmp .ge 33, 20, 50), (20, .aload_n 0, 21, 0), (21, .getfield 16, 24, 0), (24, .iload_n 2, 25, 0), (25, .iconst 0, 26, 0), (26, .invokestatic 99, 29, 0), (29, .iload_n 3, 30, 0), (30, .iadd, 31, 0), (31, .aload_n 0, 32, 0), (32, .getfield 16, 35, 0), (35, .iload_n 1, 36, 0), (36, .iconst 0, 37, 0), (37, .invokestatic 99, 40, 0), (40, .iload_n 3, 41, 0), (41, .iadd, 42, 0), (42, .laload, 43, 0), (43, .lastore, 44, 0), (44, .iinc 3 1, 47, 0)]
def tb_Mo_copyClasses_2 : List (Nat × Instr × Nat × Nat) := [(47, .goto (-33), 50, 14), (50, .return_, 51, 0)]
def tb_Mo_copyClasses : List (Nat × Instr × Nat × Nat) := tb_Mo_copyClasses_1 ++ tb_Mo_copyClasses_2
def M_Mo_copyClasses : ax_M := (9, none, tb_Mo_copyClasses, [], false)
def m_Mo_copyClasses : Nat := 87
def tb_Mo_maker_1 : List (Nat × Instr × Nat × Nat) := [(0, .aload_n 0, 1, 0), (1, .iconst 0, 2, 0), (2, .putfield 78, 5, 0), (5, .aload_n 0, 6, 0), (6, .iconst 0, 7, 0), (7, .putfield 81, 10, 0), (10, .aload_n 0, 11, 0), (11, .iconst (-1), 12, 0), (12, .putfield 84, 15, 0), (15, .aload_n 0, 16, 0), (16, .bipush 77, 18, 0), (18, .invokevirtual 103, 21, 0), (21, .aload_n 0, 22, 0), (22, .invokevirtual 87, 25, 0), (25, .bipush 48, 27, 0), (27, .isub, 28, 0), (28, .istore_n 1, 29, 0), (29, .aload_n 0, 30, 0), (30, .getfield 84, 33, 0), (33, .iconst (-1), 34, 0), (34, .if_icmp .ne 18, 37, 52), (37, .aload_n 0, 38, 0), (38, .invokevirtual 91, 41, 0), (41, .ifCond .ne 11, 44, 52), (44, .aload_n 0, 45, 0), (45, .aload_n 0, 46, 0), (46, .getfield 81, 49, 0), (49, .putfield 84, 52, 0), (52, .aload_n 0, 53, 0), (53, .getfield 84, 56, 0)]
def tb_Mo_maker_2 : List (Nat × Instr × Nat × Nat) := [(56, .iconst (-1), 57, 0), (57, .if_icmp .ne 21, 60, 78), (60, .iload_n 1, 61, 0), (61, .aload_n 0, 62, 0), (62, .getfield 63, 65, 0), (65, .if_icmp .gt 8, 68, 73), (68, .iload_n 1, 69, 0), (69, .iconst 3, 70, 0), (70, .if_icmp .le 8, 73, 78), (73, .aload_n 0, 74, 0), (74, .iconst 0, 75, 0), (75, .putfield 84, 78, 0), (78, .aload_n 0, 79, 0), (79, .dup, 80, 0), (80, .getfield 81, 83, 0), (83, .iconst 1, 84, 0), (84, .iadd, 85, 0), (85, .putfield 81, 88, 0), (88, .iconst 0, 89, 0), (89, .istore_n 2, 90, 0), (90, .aload_n 0, 91, 0), (91, .getfield 84, 94, 0), (94, .iconst (-1), 95, 0), (95, .if_icmp .ne 29, 98, 124), (98, .iload_n 2, 99, 0), (99, .ifCond .eq 14, 102, 113), (102, .aload_n 0, 103, 0), (103, .getfield 81, 106, 0), (106, .aload_n 0, 107, 0), (107, .getfield 59, 110, 0)]
def tb_Mo_maker_3 : List (Nat × Instr × Nat × Nat) := [(110, .if_icmp .ge 14, 113, 124), (113, .aload_n 0, 114, 0), (114, .iload_n 2, 115, 0), (115, .invokevirtual 115, 118, 0), (118, .iinc 2 1, 121, 0), (121, .goto (-31), 124, 90), (124, .aload_n 0, 125, 0), (125, .iconst 0, 126, 0), (126, .putfield 59, 129, 0), (129, .aload_n 0, 130, 0), (130, .getfield 84, 133, 0), (133, .iconst (-1), 134, 0), (134, .if_icmp .eq 10, 137, 144), (137, .iconst (-1), 138, 0), (138, .aload_n 0, 139, 0), (139, .getfield 84, 142, 0), (142, .isub, 143, 0), (143, .ireturn, 144, 0), (144, .aload_n 0, 145, 0), (145, .bipush 14, 147, 0), (147, .iload_n 1, 148, 0), (148, .invokevirtual 118, 151, 0), (151, .iload_n 1, 152, 0), (152, .aload_n 0, 153, 0), (153, .getfield 63, 156, 0), (156, .if_icmp .ne 13, 159, 169), (159, .aload_n 0, 160, 0), (160, .dup, 161, 0), (161, .getfield 63, 164, 0), (164, .iconst 1, 165, 0)]
def tb_Mo_maker_4 : List (Nat × Instr × Nat × Nat) := [(165, .iadd, 166, 0), (166, .putfield 63, 169, 0), (169, .iload_n 1, 170, 0), (170, .ireturn, 171, 0)]
def tb_Mo_maker : List (Nat × Instr × Nat × Nat) := tb_Mo_maker_1 ++ (tb_Mo_maker_2 ++ (tb_Mo_maker_3 ++ tb_Mo_maker_4))
def M_Mo_maker : ax_M := (9, (some .int), tb_Mo_maker, [], false)
def m_Mo_maker : Nat := 88
def tb_Mo_isLayer : List (Nat × Instr × Nat × Nat) := [(0, .iload_n 0, 1, 0), (1, .ifCond .lt 13, 4, 14), (4, .iload_n 0, 5, 0), (5, .bipush 8, 7, 0), (7, .if_icmp .ge 7, 10, 14), (10, .iconst 1, 11, 0), (11, .goto 4, 14, 15), (14, .iconst 0, 15, 0), (15, .ireturn, 16, 0)]
def M_Mo_isLayer : ax_M := (9, (some .boolean), tb_Mo_isLayer, [], false)
def m_Mo_isLayer : Nat := 89
def tb_Mo_thing_1 : List (Nat × Instr × Nat × Nat) := [(0, .iload_n 1, 1, 0), (1, .ifCond .lt 21, 4, 22), (4, .iload_n 1, 5, 0), (5, .bipush 6, 7, 0), (7, .if_icmp .ge 15, 10, 22), (10, .iload 4, 12, 0), (12, .invokestatic 122, 15, 0), (15, .ifCond .eq 7, 18, 22), (18, .iconst 1, 19, 0), (19, .goto 4, 22, 23), (22, .iconst 0, 23, 0), (23, .istore 5, 25, 0), (25, .aload_n 0, 26, 0), (26, .iload 5, 28, 0), (28, .ifCond .ne 7, 31, 35), (31, .iconst 1, 32, 0), (32, .goto 22, 35, 54), (35, .lload_n 2, 36, 0), (36, .lconst 0, 37, 0), (37, .lcmp, 38, 0), (38, .ifCond .lt 11, 41, 49), (41, .lload_n 2, 42, 0), (42, .ldc2_w 111, 45, 0), (45, .lcmp, 46, 0), (46, .ifCond .le 7, 49, 53), (49, .iconst 2, 50, 0), (50, .goto 4, 53, 54), (53, .iconst 0, 54, 0), (54, .putfield 78, 57, 0), (57, .aload_n 0, 58, 0)]
def tb_Mo_thing_2 : List (Nat × Instr × Nat × Nat) := [(58, .getfield 78, 61, 0), (61, .ifCond .eq 5, 64, 66), (64, .iconst 0, 65, 0), (65, .ireturn, 66, 0), (66, .aload_n 0, 67, 0), (67, .getfield 66, 70, 0), (70, .bipush 60, 72, 0), (72, .if_icmp .ne 5, 75, 77), (75, .iconst (-1), 76, 0), (76, .ireturn, 77, 0), (77, .aload_n 0, 78, 0), (78, .getfield 20, 81, 0), (81, .aload_n 0, 82, 0), (82, .getfield 66, 85, 0), (85, .iload_n 1, 86, 0), (86, .iastore, 87, 0), (87, .aload_n 0, 88, 0), (88, .getfield 23, 91, 0), (91, .aload_n 0, 92, 0), (92, .getfield 66, 95, 0), (95, .lload_n 2, 96, 0), (96, .lastore, 97, 0), (97, .aload_n 0, 98, 0), (98, .getfield 26, 101, 0), (101, .aload_n 0, 102, 0), (102, .getfield 66, 105, 0), (105, .iload 4, 107, 0), (107, .iastore, 108, 0), (108, .aload_n 0, 109, 0), (109, .getfield 29, 112, 0)]
def tb_Mo_thing_3 : List (Nat × Instr × Nat × Nat) := [(112, .aload_n 0, 113, 0), (113, .getfield 66, 116, 0), (116, .lconst 0, 117, 0), (117, .lastore, 118, 0), (118, .aload_n 0, 119, 0), (119, .getfield 32, 122, 0), (122, .aload_n 0, 123, 0), (123, .getfield 66, 126, 0), (126, .lconst 0, 127, 0), (127, .lastore, 128, 0), (128, .aload_n 0, 129, 0), (129, .dup, 130, 0), (130, .getfield 66, 133, 0), (133, .iconst 1, 134, 0), (134, .iadd, 135, 0), (135, .putfield 66, 138, 0), (138, .aload_n 0, 139, 0), (139, .getfield 66, 142, 0), (142, .iconst 1, 143, 0), (143, .isub, 144, 0), (144, .ireturn, 145, 0)]
def tb_Mo_thing : List (Nat × Instr × Nat × Nat) := tb_Mo_thing_1 ++ (tb_Mo_thing_2 ++ tb_Mo_thing_3)
def M_Mo_thing : ax_M := (9, (some .int), tb_Mo_thing, [], false)
def m_Mo_thing : Nat := 90
def tb_Mo_isPlace : List (Nat × Instr × Nat × Nat) := [(0, .lload_n 0, 1, 0), (1, .ldc2_w 126, 4, 0), (4, .lcmp, 5, 0), (5, .ifCond .lt 15, 8, 20), (8, .lload_n 0, 9, 0), (9, .ldc2_w 111, 12, 0), (12, .lcmp, 13, 0), (13, .ifCond .gt 7, 16, 20), (16, .iconst 1, 17, 0), (17, .goto 4, 20, 21), (20, .iconst 0, 21, 0), (21, .ireturn, 22, 0)]
def M_Mo_isPlace : ax_M := (9, (some .boolean), tb_Mo_isPlace, [], false)
def m_Mo_isPlace : Nat := 91
def tb_Mo_at_1 : List (Nat × Instr × Nat × Nat) := [(0, .aload_n 0, 1, 0), (1, .iload_n 1, 2, 0), (2, .ifCond .lt 11, 5, 13), (5, .iload_n 1, 6, 0), (6, .aload_n 0, 7, 0), (7, .getfield 66, 10, 0), (10, .if_icmp .lt 7, 13, 17), (13, .iconst 1, 14, 0), (14, .goto 23, 17, 37), (17, .lload_n 2, 18, 0), (18, .invokestatic 128, 21, 0), (21, .ifCond .eq 15, 24, 36), (24, .lload 4, 26, 0), (26, .invokestatic 128, 29, 0), (29, .ifCond .eq 7, 32, 36), (32, .iconst 0, 33, 0), (33, .goto 4, 36, 37), (36, .iconst 2, 37, 0), (37, .putfield 78, 40, 0), (40, .aload_n 0, 41, 0), (41, .getfield 78, 44, 0), (44, .ifCond .ne 26, 47, 70), (47, .aload_n 0, 48, 0), (48, .getfield 29, 51, 0), (51, .iload_n 1, 52, 0), (52, .laload, 53, 0), (53, .lload_n 2, 54, 0), (54, .lcmp, 55, 0), (55, .ifCond .ne 17, 58, 72), (58, .aload_n 0, 59, 0)]
def tb_Mo_at_2 : List (Nat × Instr × Nat × Nat) := [(59, .getfield 32, 62, 0), (62, .iload_n 1, 63, 0), (63, .laload, 64, 0), (64, .lload 4, 66, 0), (66, .lcmp, 67, 0), (67, .ifCond .ne 5, 70, 72), (70, .iconst 0, 71, 0), (71, .ireturn, 72, 0), (72, .aload_n 0, 73, 0), (73, .getfield 29, 76, 0), (76, .iload_n 1, 77, 0), (77, .lload_n 2, 78, 0), (78, .lastore, 79, 0), (79, .aload_n 0, 80, 0), (80, .getfield 32, 83, 0), (83, .iload_n 1, 84, 0), (84, .lload 4, 86, 0), (86, .lastore, 87, 0), (87, .iconst 1, 88, 0), (88, .ireturn, 89, 0)]
def tb_Mo_at : List (Nat × Instr × Nat × Nat) := tb_Mo_at_1 ++ tb_Mo_at_2
def M_Mo_at : ax_M := (9, (some .boolean), tb_Mo_at, [], false)
def m_Mo_at : Nat := 92
def tb_Mo_beyond_1 : List (Nat × Instr × Nat × Nat) := [(0, .aload_n 0, 1, 0), (1, .getfield 16, 4, 0), (4, .iload_n 1, 5, 0), (5, .iload_n 2, 6, 0), (6, .invokestatic 99, 9, 0), (9, .aload_n 0, 10, 0), (10, .getfield 20, 13, 0), (13, .iload_n 3, 14, 0), (14, .iaload, 15, 0), (15, .iadd, 16, 0), (16, .laload, 17, 0), (17, .lstore 4, 19, 0), (19, .aload_n 0, 20, 0), (20, .getfield 20, 23, 0), (23, .iload_n 3, 24, 0), (24, .iaload, 25, 0), (25, .iconst 4, 26, 0), (26, .if_icmp .ge 15, 29, 41), (29, .lload 4, 31, 0), (31, .aload_n 0, 32, 0), (32, .getfield 23, 35, 0), (35, .iload_n 3, 36, 0), (36, .laload, 37, 0), (37, .lsub, 38, 0), (38, .goto 12, 41, 50), (41, .aload_n 0, 42, 0), (42, .getfield 23, 45, 0), (45, .iload_n 3, 46, 0), (46, .laload, 47, 0), (47, .lload 4, 49, 0)]
def tb_Mo_beyond_2 : List (Nat × Instr × Nat × Nat) := [(49, .lsub, 50, 0), (50, .lreturn, 51, 0)]
def tb_Mo_beyond : List (Nat × Instr × Nat × Nat) := tb_Mo_beyond_1 ++ tb_Mo_beyond_2
def M_Mo_beyond : ax_M := (9, (some .long), tb_Mo_beyond, [], false)
def m_Mo_beyond : Nat := 93
def tb_Mo_makes : List (Nat × Instr × Nat × Nat) := [(0, .iconst 1, 1, 0), (1, .istore_n 3, 2, 0), (2, .iconst 0, 3, 0), (3, .istore 4, 5, 0), (5, .iload 4, 7, 0), (7, .aload_n 0, 8, 0), (8, .getfield 66, 11, 0), (11, .if_icmp .ge 32, 14, 43), (14, .iload_n 3, 15, 0), (15, .ifCond .eq 20, 18, 35), (18, .aload_n 0, 19, 0), (19, .iload_n 1, 20, 0), (20, .iload_n 2, 21, 0), (21, .iload 4, 23, 0), (23, .invokevirtual 132, 26, 0), (26, .lconst 0, 27, 0), (27, .lcmp, 28, 0), (28, .ifCond .gt 7, 31, 35), (31, .iconst 1, 32, 0), (32, .goto 4, 35, 36), (35, .iconst 0, 36, 0), (36, .istore_n 3, 37, 0), (37, .iinc 4 1, 40, 0), (40, .goto (-35), 43, 5), (43, .iload_n 3, 44, 0), (44, .ireturn, 45, 0)]
def M_Mo_makes : ax_M := (9, (some .boolean), tb_Mo_makes, [], false)
def m_Mo_makes : Nat := 94
def tb_Mo_leastOf : List (Nat × Instr × Nat × Nat) := [(0, .iconst 0, 1, 0), (1, .istore_n 2, 2, 0), (2, .iload_n 2, 3, 0), (3, .aload_n 0, 4, 0), (4, .getfield 13, 7, 0), (7, .iload_n 1, 8, 0), (8, .iaload, 9, 0), (9, .if_icmp .ge 20, 12, 29), (12, .aload_n 0, 13, 0), (13, .iload_n 1, 14, 0), (14, .iload_n 2, 15, 0), (15, .invokevirtual 136, 18, 0), (18, .ifCond .eq 5, 21, 23), (21, .iload_n 2, 22, 0), (22, .ireturn, 23, 0), (23, .iinc 2 1, 26, 0), (26, .goto (-24), 29, 2), (29, .iconst (-1), 30, 0), (30, .ireturn, 31, 0)]
def M_Mo_leastOf : ax_M := (9, (some .int), tb_Mo_leastOf, [], false)
def m_Mo_leastOf : Nat := 95
def tb_Mo_isMaker : List (Nat × Instr × Nat × Nat) := [(0, .iload_n 1, 1, 0), (1, .ifCond .lt 15, 4, 16), (4, .iload_n 1, 5, 0), (5, .aload_n 0, 6, 0), (6, .getfield 63, 9, 0), (9, .if_icmp .ge 7, 12, 16), (12, .iconst 1, 13, 0), (13, .goto 4, 16, 17), (16, .iconst 0, 17, 0), (17, .ireturn, 18, 0)]
def M_Mo_isMaker : ax_M := (9, (some .boolean), tb_Mo_isMaker, [], false)
def m_Mo_isMaker : Nat := 96
def tb_Mo_isClass : List (Nat × Instr × Nat × Nat) := [(0, .aload_n 0, 1, 0), (1, .iload_n 1, 2, 0), (2, .invokevirtual 140, 5, 0), (5, .ifCond .eq 21, 8, 26), (8, .iload_n 2, 9, 0), (9, .ifCond .lt 17, 12, 26), (12, .iload_n 2, 13, 0), (13, .aload_n 0, 14, 0), (14, .getfield 13, 17, 0), (17, .iload_n 1, 18, 0), (18, .iaload, 19, 0), (19, .if_icmp .ge 7, 22, 26), (22, .iconst 1, 23, 0), (23, .goto 4, 26, 27), (26, .iconst 0, 27, 0), (27, .ireturn, 28, 0)]
def M_Mo_isClass : ax_M := (9, (some .boolean), tb_Mo_isClass, [], false)
def m_Mo_isClass : Nat := 97
def tb_Mo_run_1 : List (Nat × Instr × Nat × Nat) := [(0, .aload_n 0, 1, 0), (1, .aload_n 0, 2, 0), (2, .iload_n 1, 3, 0), (3, .iload_n 2, 4, 0), (4, .invokevirtual 143, 7, 0), (7, .ifCond .eq 7, 10, 14), (10, .iconst 0, 11, 0), (11, .goto 4, 14, 15), (14, .iconst 1, 15, 0), (15, .putfield 78, 18, 0), (18, .aload_n 0, 19, 0), (19, .getfield 78, 22, 0), (22, .ifCond .eq 5, 25, 27), (25, .iconst 0, 26, 0), (26, .ireturn, 27, 0), (27, .aload_n 0, 28, 0), (28, .iconst 0, 29, 0), (29, .putfield 69, 32, 0), (32, .iconst 0, 33, 0), (33, .istore_n 3, 34, 0), (34, .iload_n 3, 35, 0), (35, .aload_n 0, 36, 0), (36, .getfield 66, 39, 0), (39, .if_icmp .ge 60, 42, 99), (42, .aload_n 0, 43, 0), (43, .iload_n 1, 44, 0), (44, .iload_n 2, 45, 0), (45, .iload_n 3, 46, 0), (46, .invokevirtual 132, 49, 0), (49, .lconst 0, 50, 0)]
def tb_Mo_run_2 : List (Nat × Instr × Nat × Nat) := [(50, .lcmp, 51, 0), (51, .ifCond .gt 6, 54, 57), (54, .goto 39, 57, 93), (57, .aload_n 0, 58, 0), (58, .getfield 35, 61, 0), (61, .aload_n 0, 62, 0), (62, .getfield 69, 65, 0), (65, .iload_n 3, 66, 0), (66, .iastore, 67, 0), (67, .aload_n 0, 68, 0), (68, .getfield 38, 71, 0), (71, .aload_n 0, 72, 0), (72, .getfield 69, 75, 0), (75, .aload_n 0, 76, 0), (76, .iload_n 1, 77, 0), (77, .iload_n 2, 78, 0), (78, .iload_n 3, 79, 0), (79, .invokevirtual 132, 82, 0), (82, .lastore, 83, 0), (83, .aload_n 0, 84, 0), (84, .dup, 85, 0), (85, .getfield 69, 88, 0), (88, .iconst 1, 89, 0), (89, .iadd, 90, 0), (90, .putfield 69, 93, 0), (93, .iinc 3 1, 96, 0), (96, .goto (-62), 99, 34), (99, .aload_n 0, 100, 0), (100, .getfield 69, 103, 0), (103, .ireturn, 104, 0)]
def tb_Mo_run : List (Nat × Instr × Nat × Nat) := tb_Mo_run_1 ++ tb_Mo_run_2
def M_Mo_run : ax_M := (9, (some .int), tb_Mo_run, [], false)
def m_Mo_run : Nat := 98
def tb_Mo_remark_1 : List (Nat × Instr × Nat × Nat) := [(0, .aload_n 0, 1, 0), (1, .iload_n 2, 2, 0), (2, .ifCond .lt 13, 5, 15), (5, .iload_n 2, 6, 0), (6, .bipush 6, 8, 0), (8, .if_icmp .ge 7, 11, 15), (11, .iconst 0, 12, 0), (12, .goto 4, 15, 16), (15, .iconst 1, 16, 0), (16, .putfield 78, 19, 0), (19, .aload_n 0, 20, 0), (20, .getfield 78, 23, 0), (23, .ifCond .eq 5, 26, 28), (26, .iconst 0, 27, 0), (27, .ireturn, 28, 0), (28, .iload_n 1, 29, 0), (29, .ifCond .lt 11, 32, 40), (32, .iload_n 1, 33, 0), (33, .aload_n 0, 34, 0), (34, .getfield 69, 37, 0), (37, .if_icmp .lt 5, 40, 42), (40, .iconst (-1), 41, 0), (41, .ireturn, 42, 0), (42, .aload_n 0, 43, 0), (43, .getfield 35, 46, 0), (46, .iload_n 1, 47, 0), (47, .iaload, 48, 0), (48, .istore_n 3, 49, 0), (49, .iload_n 2, 50, 0), (50, .tableswitch 66 0 4 #[34, 36, 43, 51, 58], 84, 0)]
def tb_Mo_remark_2 : List (Nat × Instr × Nat × Nat) := [(84, .iload_n 3, 85, 0), (85, .ireturn, 86, 0), (86, .aload_n 0, 87, 0), (87, .getfield 20, 90, 0), (90, .iload_n 3, 91, 0), (91, .iaload, 92, 0), (92, .ireturn, 93, 0), (93, .aload_n 0, 94, 0), (94, .getfield 38, 97, 0), (97, .iload_n 1, 98, 0), (98, .laload, 99, 0), (99, .l2i, 100, 0), (100, .ireturn, 101, 0), (101, .aload_n 0, 102, 0), (102, .getfield 26, 105, 0), (105, .iload_n 3, 106, 0), (106, .iaload, 107, 0), (107, .ireturn, 108, 0), (108, .aload_n 0, 109, 0), (109, .getfield 29, 112, 0), (112, .iload_n 3, 113, 0), (113, .laload, 114, 0), (114, .l2i, 115, 0), (115, .ireturn, 116, 0), (116, .aload_n 0, 117, 0), (117, .getfield 32, 120, 0), (120, .iload_n 3, 121, 0), (121, .laload, 122, 0), (122, .l2i, 123, 0), (123, .ireturn, 124, 0)]
def tb_Mo_remark : List (Nat × Instr × Nat × Nat) := tb_Mo_remark_1 ++ tb_Mo_remark_2
def M_Mo_remark : ax_M := (9, (some .int), tb_Mo_remark, [], false)
def m_Mo_remark : Nat := 99
def tb_Mo_least : List (Nat × Instr × Nat × Nat) := [(0, .aload_n 0, 1, 0), (1, .aload_n 0, 2, 0), (2, .iload_n 1, 3, 0), (3, .invokevirtual 140, 6, 0), (6, .ifCond .eq 7, 9, 13), (9, .iconst 0, 10, 0), (10, .goto 4, 13, 14), (13, .iconst 1, 14, 0), (14, .putfield 78, 17, 0), (17, .aload_n 0, 18, 0), (18, .getfield 78, 21, 0), (21, .ifCond .ne 11, 24, 32), (24, .aload_n 0, 25, 0), (25, .iload_n 1, 26, 0), (26, .invokevirtual 146, 29, 0), (29, .goto 4, 32, 33), (32, .iconst 0, 33, 0), (33, .ireturn, 34, 0)]
def M_Mo_least : ax_M := (9, (some .int), tb_Mo_least, [], false)
def m_Mo_least : Nat := 100
def tb_Mo_isQuantity : List (Nat × Instr × Nat × Nat) := [(0, .lload_n 0, 1, 0), (1, .lconst 1, 2, 0), (2, .lcmp, 3, 0), (3, .ifCond .lt 15, 6, 18), (6, .lload_n 0, 7, 0), (7, .ldc2_w 111, 10, 0), (10, .lcmp, 11, 0), (11, .ifCond .gt 7, 14, 18), (14, .iconst 1, 15, 0), (15, .goto 4, 18, 19), (18, .iconst 0, 19, 0), (19, .ireturn, 20, 0)]
def M_Mo_isQuantity : ax_M := (9, (some .boolean), tb_Mo_isQuantity, [], false)
def m_Mo_isQuantity : Nat := 101
def tb_Mo_priceOf_1 : List (Nat × Instr × Nat × Nat) := [(0, .iload_n 1, 1, 0), (1, .iload_n 2, 2, 0), (2, .invokestatic 99, 5, 0), (5, .istore 5, 7, 0), (7, .aload_n 0, 8, 0), (8, .getfield 16, 11, 0), (11, .iload 5, 13, 0), (13, .bipush 6, 15, 0), (15, .iadd, 16, 0), (16, .laload, 17, 0), (17, .l2i, 18, 0), (18, .istore 6, 20, 0), (20, .iload 6, 22, 0), (22, .iconst 1, 23, 0), (23, .isub, 24, 0), (24, .istore 7, 26, 0), (26, .iload 7, 28, 0), (28, .ifCond .lt 47, 31, 75), (31, .aload_n 0, 32, 0), (32, .getfield 16, 35, 0), (35, .iload 5, 37, 0), (37, .bipush 8, 39, 0), (39, .iadd, 40, 0), (40, .iconst 2, 41, 0), (41, .iload 7, 43, 0), (43, .imul, 44, 0), (44, .iadd, 45, 0), (45, .laload, 46, 0), (46, .lload_n 3, 47, 0), (47, .lcmp, 48, 0)]
def tb_Mo_priceOf_2 : List (Nat × Instr × Nat × Nat) := [(48, .ifCond .gt 21, 51, 69), (51, .lload_n 3, 52, 0), (52, .aload_n 0, 53, 0), (53, .getfield 16, 56, 0), (56, .iload 5, 58, 0), (58, .bipush 9, 60, 0), (60, .iadd, 61, 0), (61, .iconst 2, 62, 0), (62, .iload 7, 64, 0), (64, .imul, 65, 0), (65, .iadd, 66, 0), (66, .laload, 67, 0), (67, .lmul, 68, 0), (68, .lreturn, 69, 0), (69, .iinc 7 (-1), 72, 0), (72, .goto (-46), 75, 26), (75, .aload_n 0, 76, 0), (76, .getfield 16, 79, 0), (79, .iload 5, 81, 0), (81, .bipush 8, 83, 0), (83, .iadd, 84, 0), (84, .laload, 85, 0), (85, .aload_n 0, 86, 0), (86, .getfield 16, 89, 0), (89, .iload 5, 91, 0), (91, .bipush 9, 93, 0), (93, .iadd, 94, 0), (94, .laload, 95, 0), (95, .lmul, 96, 0), (96, .lreturn, 97, 0)]
def tb_Mo_priceOf : List (Nat × Instr × Nat × Nat) := tb_Mo_priceOf_1 ++ tb_Mo_priceOf_2
def M_Mo_priceOf : ax_M := (9, (some .long), tb_Mo_priceOf, [], false)
def m_Mo_priceOf : Nat := 102
def tb_Mo_price : List (Nat × Instr × Nat × Nat) := [(0, .aload_n 0, 1, 0), (1, .aload_n 0, 2, 0), (2, .iload_n 1, 3, 0), (3, .iload_n 2, 4, 0), (4, .invokevirtual 143, 7, 0), (7, .ifCond .ne 7, 10, 14), (10, .iconst 1, 11, 0), (11, .goto 15, 14, 26), (14, .lload_n 3, 15, 0), (15, .invokestatic 150, 18, 0), (18, .ifCond .eq 7, 21, 25), (21, .iconst 0, 22, 0), (22, .goto 4, 25, 26), (25, .iconst 2, 26, 0), (26, .putfield 78, 29, 0), (29, .aload_n 0, 30, 0), (30, .getfield 78, 33, 0), (33, .ifCond .ne 13, 36, 46), (36, .aload_n 0, 37, 0), (37, .iload_n 1, 38, 0), (38, .iload_n 2, 39, 0), (39, .lload_n 3, 40, 0), (40, .invokevirtual 153, 43, 0), (43, .goto 4, 46, 47), (46, .lconst 0, 47, 0), (47, .lreturn, 48, 0)]
def M_Mo_price : ax_M := (9, (some .long), tb_Mo_price, [], false)
def m_Mo_price : Nat := 103
def tb_Mo_share_1 : List (Nat × Instr × Nat × Nat) := [(0, .aload_n 0, 1, 0), (1, .lload_n 3, 2, 0), (2, .invokestatic 150, 5, 0), (5, .ifCond .eq 9, 8, 14), (8, .lload_n 1, 9, 0), (9, .lconst 0, 10, 0), (10, .lcmp, 11, 0), (11, .ifCond .ge 7, 14, 18), (14, .iconst 2, 15, 0), (15, .goto 21, 18, 36), (18, .iload 5, 20, 0), (20, .ifCond .lt 11, 23, 31), (23, .iload 5, 25, 0), (25, .i2l, 26, 0), (26, .lload_n 3, 27, 0), (27, .lcmp, 28, 0), (28, .ifCond .lt 7, 31, 35), (31, .iconst 1, 32, 0), (32, .goto 4, 35, 36), (35, .iconst 0, 36, 0), (36, .putfield 78, 39, 0), (39, .aload_n 0, 40, 0), (40, .getfield 78, 43, 0), (43, .ifCond .eq 5, 46, 48), (46, .lconst 0, 47, 0), (47, .lreturn, 48, 0), (48, .lload_n 1, 49, 0), (49, .lload_n 3, 50, 0), (50, .ldiv, 51, 0), (51, .iload 5, 53, 0)]
def tb_Mo_share_2 : List (Nat × Instr × Nat × Nat) := [(53, .i2l, 54, 0), (54, .lload_n 1, 55, 0), (55, .lload_n 3, 56, 0), (56, .lrem, 57, 0), (57, .lcmp, 58, 0), (58, .ifCond .ge 7, 61, 65), (61, .lconst 1, 62, 0), (62, .goto 4, 65, 66), (65, .lconst 0, 66, 0), (66, .ladd, 67, 0), (67, .lreturn, 68, 0)]
def tb_Mo_share : List (Nat × Instr × Nat × Nat) := tb_Mo_share_1 ++ tb_Mo_share_2
def M_Mo_share : ax_M := (9, (some .long), tb_Mo_share, [], false)
def m_Mo_share : Nat := 104
def tb_Mo_best_1 : List (Nat × Instr × Nat × Nat) := [(0, .aload_n 0, 1, 0), (1, .lload_n 1, 2, 0), (2, .invokestatic 150, 5, 0), (5, .ifCond .eq 7, 8, 12), (8, .iconst 0, 9, 0), (9, .goto 4, 12, 13), (12, .iconst 1, 13, 0), (13, .putfield 78, 16, 0), (16, .aload_n 0, 17, 0), (17, .getfield 78, 20, 0), (20, .ifCond .eq 5, 23, 25), (23, .iconst 0, 24, 0), (24, .ireturn, 25, 0), (25, .iconst (-1), 26, 0), (26, .istore_n 3, 27, 0), (27, .lconst 0, 28, 0), (28, .lstore 4, 30, 0), (30, .iconst 0, 31, 0), (31, .istore 6, 33, 0), (33, .iload 6, 35, 0), (35, .aload_n 0, 36, 0), (36, .getfield 63, 39, 0), (39, .if_icmp .ge 60, 42, 99), (42, .aload_n 0, 43, 0), (43, .iload 6, 45, 0), (45, .invokevirtual 146, 48, 0), (48, .istore 7, 50, 0), (50, .iload 7, 52, 0), (52, .iconst (-1), 53, 0), (53, .if_icmp .eq 40, 56, 93)]
def tb_Mo_best_2 : List (Nat × Instr × Nat × Nat) := [(56, .iload_n 3, 57, 0), (57, .iconst (-1), 58, 0), (58, .if_icmp .eq 21, 61, 79), (61, .aload_n 0, 62, 0), (62, .iload 6, 64, 0), (64, .iload 7, 66, 0), (66, .lload_n 1, 67, 0), (67, .invokevirtual 153, 70, 0), (70, .lload 4, 72, 0), (72, .lcmp, 73, 0), (73, .ifCond .lt 6, 76, 79), (76, .goto 17, 79, 93), (79, .iload 6, 81, 0), (81, .istore_n 3, 82, 0), (82, .aload_n 0, 83, 0), (83, .iload 6, 85, 0), (85, .iload 7, 87, 0), (87, .lload_n 1, 88, 0), (88, .invokevirtual 153, 91, 0), (91, .lstore 4, 93, 0), (93, .iinc 6 1, 96, 0), (96, .goto (-63), 99, 33), (99, .iload_n 3, 100, 0), (100, .ireturn, 101, 0)]
def tb_Mo_best : List (Nat × Instr × Nat × Nat) := tb_Mo_best_1 ++ tb_Mo_best_2
def M_Mo_best : ax_M := (9, (some .int), tb_Mo_best, [], false)
def m_Mo_best : Nat := 105
def tb_Mo_isCell : List (Nat × Instr × Nat × Nat) := [(0, .iload_n 0, 1, 0), (1, .invokestatic 122, 4, 0), (4, .ifCond .eq 17, 7, 21), (7, .iload_n 1, 8, 0), (8, .ifCond .lt 13, 11, 21), (11, .iload_n 1, 12, 0), (12, .bipush 16, 14, 0), (14, .if_icmp .ge 7, 17, 21), (17, .iconst 1, 18, 0), (18, .goto 4, 21, 22), (21, .iconst 0, 22, 0), (22, .ireturn, 23, 0)]
def M_Mo_isCell : ax_M := (9, (some .boolean), tb_Mo_isCell, [], false)
def m_Mo_isCell : Nat := 106
def tb_Mo_copper_1 : List (Nat × Instr × Nat × Nat) := [(0, .lload 5, 2, 0), (2, .lconst 1, 3, 0), (3, .lcmp, 4, 0), (4, .ifCond .lt 29, 7, 33), (7, .lload 5, 9, 0), (9, .ldc2_w 95, 12, 0), (12, .lcmp, 13, 0), (13, .ifCond .gt 20, 16, 33), (16, .lload_n 3, 17, 0), (17, .lconst 0, 18, 0), (18, .lcmp, 19, 0), (19, .ifCond .lt 14, 22, 33), (22, .lload_n 3, 23, 0), (23, .lload 5, 25, 0), (25, .lcmp, 26, 0), (26, .ifCond .gt 7, 29, 33), (29, .iconst 1, 30, 0), (30, .goto 4, 33, 34), (33, .iconst 0, 34, 0), (34, .istore 7, 36, 0), (36, .aload_n 0, 37, 0), (37, .iload_n 1, 38, 0), (38, .iload_n 2, 39, 0), (39, .invokestatic 157, 42, 0), (42, .ifCond .ne 7, 45, 49), (45, .iconst 1, 46, 0), (46, .goto 13, 49, 59), (49, .iload 7, 51, 0), (51, .ifCond .eq 7, 54, 58), (54, .iconst 0, 55, 0)]
def tb_Mo_copper_2 : List (Nat × Instr × Nat × Nat) := [(55, .goto 4, 58, 59), (58, .iconst 2, 59, 0), (59, .putfield 78, 62, 0), (62, .aload_n 0, 63, 0), (63, .getfield 78, 66, 0), (66, .ifCond .eq 5, 69, 71), (69, .iconst 0, 70, 0), (70, .ireturn, 71, 0), (71, .bipush 16, 73, 0), (73, .iload_n 1, 74, 0), (74, .imul, 75, 0), (75, .iload_n 2, 76, 0), (76, .iadd, 77, 0), (77, .istore 8, 79, 0), (79, .aload_n 0, 80, 0), (80, .getfield 50, 83, 0), (83, .iload 8, 85, 0), (85, .laload, 86, 0), (86, .lload_n 3, 87, 0), (87, .lcmp, 88, 0), (88, .ifCond .ne 16, 91, 104), (91, .aload_n 0, 92, 0), (92, .getfield 53, 95, 0), (95, .iload 8, 97, 0), (97, .laload, 98, 0), (98, .lload 5, 100, 0), (100, .lcmp, 101, 0), (101, .ifCond .eq 7, 104, 108), (104, .iconst 1, 105, 0), (105, .goto 4, 108, 109)]
def tb_Mo_copper_3 : List (Nat × Instr × Nat × Nat) := [(108, .iconst 0, 109, 0), (109, .istore 9, 111, 0), (111, .aload_n 0, 112, 0), (112, .getfield 50, 115, 0), (115, .iload 8, 117, 0), (117, .lload_n 3, 118, 0), (118, .lastore, 119, 0), (119, .aload_n 0, 120, 0), (120, .getfield 53, 123, 0), (123, .iload 8, 125, 0), (125, .lload 5, 127, 0), (127, .lastore, 128, 0), (128, .iload 9, 130, 0), (130, .ireturn, 131, 0)]
def tb_Mo_copper : List (Nat × Instr × Nat × Nat) := tb_Mo_copper_1 ++ (tb_Mo_copper_2 ++ tb_Mo_copper_3)
def M_Mo_copper : ax_M := (9, (some .boolean), tb_Mo_copper, [], false)
def m_Mo_copper : Nat := 107
def tb_Mo_balance_1 : List (Nat × Instr × Nat × Nat) := [(0, .aload_n 0, 1, 0), (1, .iload_n 1, 2, 0), (2, .iload_n 2, 3, 0), (3, .invokestatic 157, 6, 0), (6, .ifCond .eq 16, 9, 22), (9, .iload_n 3, 10, 0), (10, .ifCond .eq 8, 13, 18), (13, .iload_n 3, 14, 0), (14, .iconst 1, 15, 0), (15, .if_icmp .ne 7, 18, 22), (18, .iconst 0, 19, 0), (19, .goto 4, 22, 23), (22, .iconst 1, 23, 0), (23, .putfield 78, 26, 0), (26, .aload_n 0, 27, 0), (27, .getfield 78, 30, 0), (30, .ifCond .eq 5, 33, 35), (33, .lconst 0, 34, 0), (34, .lreturn, 35, 0), (35, .lconst 0, 36, 0), (36, .lstore 4, 38, 0), (38, .bipush 16, 40, 0), (40, .iload_n 1, 41, 0), (41, .imul, 42, 0), (42, .istore 6, 44, 0), (44, .iload 6, 46, 0), (46, .bipush 16, 48, 0), (48, .iload_n 1, 49, 0), (49, .imul, 50, 0), (50, .bipush 16, 52, 0)]
def tb_Mo_balance_2 : List (Nat × Instr × Nat × Nat) := [(52, .iadd, 53, 0), (53, .if_icmp .ge 33, 56, 86), (56, .lload 4, 58, 0), (58, .aload_n 0, 59, 0), (59, .getfield 50, 62, 0), (62, .iload 6, 64, 0), (64, .laload, 65, 0), (65, .ldc2_w 160, 68, 0), (68, .aload_n 0, 69, 0), (69, .getfield 53, 72, 0), (72, .iload 6, 74, 0), (74, .laload, 75, 0), (75, .ldiv, 76, 0), (76, .lmul, 77, 0), (77, .ladd, 78, 0), (78, .lstore 4, 80, 0), (80, .iinc 6 1, 83, 0), (83, .goto (-39), 86, 44), (86, .bipush 16, 88, 0), (88, .iload_n 1, 89, 0), (89, .imul, 90, 0), (90, .iload_n 2, 91, 0), (91, .iadd, 92, 0), (92, .istore 6, 94, 0), (94, .ldc2_w 162, 97, 0), (97, .aload_n 0, 98, 0), (98, .getfield 50, 101, 0), (101, .iload 6, 103, 0), (103, .laload, 104, 0), (104, .lmul, 105, 0)]
def tb_Mo_balance_3 : List (Nat × Instr × Nat × Nat) := [(105, .ldc2_w 160, 108, 0), (108, .aload_n 0, 109, 0), (109, .getfield 53, 112, 0), (112, .iload 6, 114, 0), (114, .laload, 115, 0), (115, .ldiv, 116, 0), (116, .lmul, 117, 0), (117, .lload 4, 119, 0), (119, .lsub, 120, 0), (120, .lstore 7, 122, 0), (122, .lload 7, 124, 0), (124, .lconst 0, 125, 0), (125, .lcmp, 126, 0), (126, .ifCond .ge 10, 129, 136), (129, .lconst 0, 130, 0), (130, .lload 7, 132, 0), (132, .lsub, 133, 0), (133, .goto 5, 136, 138), (136, .lload 7, 138, 0), (138, .lstore 9, 140, 0), (140, .ldc2_w 164, 143, 0), (143, .lstore 11, 145, 0), (145, .lload 9, 147, 0), (147, .lconst 0, 148, 0), (148, .lcmp, 149, 0), (149, .ifCond .eq 21, 152, 170), (152, .lload 11, 154, 0), (154, .lload 9, 156, 0), (156, .lrem, 157, 0), (157, .lstore 13, 159, 0)]
def tb_Mo_balance_4 : List (Nat × Instr × Nat × Nat) := [(159, .lload 9, 161, 0), (161, .lstore 11, 163, 0), (163, .lload 13, 165, 0), (165, .lstore 9, 167, 0), (167, .goto (-22), 170, 145), (170, .iload_n 3, 171, 0), (171, .ifCond .ne 11, 174, 182), (174, .lload 7, 176, 0), (176, .lload 11, 178, 0), (178, .ldiv, 179, 0), (179, .goto 9, 182, 188), (182, .ldc2_w 164, 185, 0), (185, .lload 11, 187, 0), (187, .ldiv, 188, 0), (188, .lreturn, 189, 0)]
def tb_Mo_balance : List (Nat × Instr × Nat × Nat) := tb_Mo_balance_1 ++ (tb_Mo_balance_2 ++ (tb_Mo_balance_3 ++ tb_Mo_balance_4))
def M_Mo_balance : ax_M := (9, (some .long), tb_Mo_balance, [], false)
def m_Mo_balance : Nat := 108
def tb_Mo_quote_1 : List (Nat × Instr × Nat × Nat) := [(0, .aload_n 0, 1, 0), (1, .aload_n 0, 2, 0), (2, .iload_n 1, 3, 0), (3, .invokevirtual 140, 6, 0), (6, .ifCond .eq 7, 9, 13), (9, .iconst 0, 10, 0), (10, .goto 4, 13, 14), (13, .iconst 1, 14, 0), (14, .putfield 78, 17, 0), (17, .aload_n 0, 18, 0), (18, .getfield 78, 21, 0), (21, .ifCond .eq 5, 24, 26), (24, .iconst 0, 25, 0), (25, .ireturn, 26, 0), (26, .aload_n 0, 27, 0), (27, .getfield 72, 30, 0), (30, .bipush 10, 32, 0), (32, .if_icmp .ne 5, 35, 37), (35, .iconst (-1), 36, 0), (36, .ireturn, 37, 0), (37, .aload_n 0, 38, 0), (38, .iload_n 1, 39, 0), (39, .iconst 4, 40, 0), (40, .aload_n 0, 41, 0), (41, .getfield 72, 44, 0), (44, .iadd, 45, 0), (45, .invokevirtual 118, 48, 0), (48, .aload_n 0, 49, 0), (49, .getfield 41, 52, 0), (52, .aload_n 0, 53, 0)]
def tb_Mo_quote_2 : List (Nat × Instr × Nat × Nat) := [(53, .getfield 72, 56, 0), (56, .iload_n 1, 57, 0), (57, .iastore, 58, 0), (58, .aload_n 0, 59, 0), (59, .getfield 44, 62, 0), (62, .aload_n 0, 63, 0), (63, .getfield 72, 66, 0), (66, .lload_n 2, 67, 0), (67, .lastore, 68, 0), (68, .aload_n 0, 69, 0), (69, .dup, 70, 0), (70, .getfield 72, 73, 0), (73, .iconst 1, 74, 0), (74, .iadd, 75, 0), (75, .putfield 72, 78, 0), (78, .aload_n 0, 79, 0), (79, .getfield 72, 82, 0), (82, .iconst 1, 83, 0), (83, .isub, 84, 0), (84, .ireturn, 85, 0)]
def tb_Mo_quote : List (Nat × Instr × Nat × Nat) := tb_Mo_quote_1 ++ tb_Mo_quote_2
def M_Mo_quote : ax_M := (9, (some .int), tb_Mo_quote, [], false)
def m_Mo_quote : Nat := 109
def tb_Mo_order_1 : List (Nat × Instr × Nat × Nat) := [(0, .aload_n 0, 1, 0), (1, .aload_n 0, 2, 0), (2, .iload_n 1, 3, 0), (3, .invokevirtual 140, 6, 0), (6, .ifCond .ne 7, 9, 13), (9, .iconst 1, 10, 0), (10, .goto 15, 13, 25), (13, .lload_n 2, 14, 0), (14, .invokestatic 150, 17, 0), (17, .ifCond .eq 7, 20, 24), (20, .iconst 0, 21, 0), (21, .goto 4, 24, 25), (24, .iconst 2, 25, 0), (25, .putfield 78, 28, 0), (28, .aload_n 0, 29, 0), (29, .getfield 78, 32, 0), (32, .ifCond .eq 5, 35, 37), (35, .iconst 0, 36, 0), (36, .ireturn, 37, 0), (37, .aload_n 0, 38, 0), (38, .getfield 72, 41, 0), (41, .iconst 1, 42, 0), (42, .isub, 43, 0), (43, .istore 6, 45, 0), (45, .iload 6, 47, 0), (47, .ifCond .lt 33, 50, 80), (50, .aload_n 0, 51, 0), (51, .getfield 41, 54, 0), (54, .iload 6, 56, 0), (56, .iaload, 57, 0)]
def tb_Mo_order_2 : List (Nat × Instr × Nat × Nat) := [(57, .iload_n 1, 58, 0), (58, .if_icmp .ne 16, 61, 74), (61, .aload_n 0, 62, 0), (62, .getfield 44, 65, 0), (65, .iload 6, 67, 0), (67, .laload, 68, 0), (68, .lload 4, 70, 0), (70, .lcmp, 71, 0), (71, .ifCond .ge 9, 74, 80), (74, .iinc 6 (-1), 77, 0), (77, .goto (-32), 80, 45), (80, .iload 6, 82, 0), (82, .ifCond .ge 7, 85, 89), (85, .iload_n 1, 86, 0), (86, .goto 7, 89, 93), (89, .iconst 4, 90, 0), (90, .iload 6, 92, 0), (92, .iadd, 93, 0), (93, .istore 7, 95, 0), (95, .aload_n 0, 96, 0), (96, .iload 7, 98, 0), (98, .invokevirtual 146, 101, 0), (101, .istore 8, 103, 0), (103, .aload_n 0, 104, 0), (104, .getfield 75, 107, 0), (107, .bipush 20, 109, 0), (109, .if_icmp .eq 9, 112, 118), (112, .iload 8, 114, 0), (114, .iconst (-1), 115, 0), (115, .if_icmp .ne 5, 118, 120)]
def tb_Mo_order_3 : List (Nat × Instr × Nat × Nat) := [(118, .iconst (-1), 119, 0), (119, .ireturn, 120, 0), (120, .bipush 7, 122, 0), (122, .aload_n 0, 123, 0), (123, .getfield 75, 126, 0), (126, .imul, 127, 0), (127, .istore 9, 129, 0), (129, .aload_n 0, 130, 0), (130, .iload 7, 132, 0), (132, .iload 8, 134, 0), (134, .lload_n 2, 135, 0), (135, .invokevirtual 153, 138, 0), (138, .lstore 10, 140, 0), (140, .aload_n 0, 141, 0), (141, .getfield 47, 144, 0), (144, .iload 9, 146, 0), (146, .iload_n 1, 147, 0), (147, .i2l, 148, 0), (148, .lastore, 149, 0), (149, .aload_n 0, 150, 0), (150, .getfield 47, 153, 0), (153, .iload 9, 155, 0), (155, .iconst 1, 156, 0), (156, .iadd, 157, 0), (157, .iload 8, 159, 0), (159, .i2l, 160, 0), (160, .lastore, 161, 0), (161, .aload_n 0, 162, 0), (162, .getfield 47, 165, 0), (165, .iload 9, 167, 0)]
def tb_Mo_order_4 : List (Nat × Instr × Nat × Nat) := [(167, .iconst 2, 168, 0), (168, .iadd, 169, 0), (169, .lload_n 2, 170, 0), (170, .lastore, 171, 0), (171, .aload_n 0, 172, 0), (172, .getfield 47, 175, 0), (175, .iload 9, 177, 0), (177, .iconst 3, 178, 0), (178, .iadd, 179, 0), (179, .aload_n 0, 180, 0), (180, .getfield 16, 183, 0), (183, .iload 7, 185, 0), (185, .iload 8, 187, 0), (187, .invokestatic 99, 190, 0), (190, .bipush 7, 192, 0), (192, .iadd, 193, 0), (193, .laload, 194, 0), (194, .lastore, 195, 0), (195, .aload_n 0, 196, 0), (196, .getfield 47, 199, 0), (199, .iload 9, 201, 0), (201, .iconst 4, 202, 0), (202, .iadd, 203, 0), (203, .lload 10, 205, 0), (205, .ldc2_w 113, 208, 0), (208, .ldiv, 209, 0), (209, .lastore, 210, 0), (210, .aload_n 0, 211, 0), (211, .getfield 47, 214, 0), (214, .iload 9, 216, 0)]
def tb_Mo_order_5 : List (Nat × Instr × Nat × Nat) := [(216, .iconst 5, 217, 0), (217, .iadd, 218, 0), (218, .lload 10, 220, 0), (220, .ldc2_w 113, 223, 0), (223, .lrem, 224, 0), (224, .lastore, 225, 0), (225, .aload_n 0, 226, 0), (226, .getfield 47, 229, 0), (229, .iload 9, 231, 0), (231, .bipush 6, 233, 0), (233, .iadd, 234, 0), (234, .iload 6, 236, 0), (236, .ifCond .ge 9, 239, 245), (239, .ldc2_w 166, 242, 0), (242, .goto 6, 245, 248), (245, .iload 6, 247, 0), (247, .i2l, 248, 0), (248, .lastore, 249, 0), (249, .aload_n 0, 250, 0), (250, .dup, 251, 0), (251, .getfield 75, 254, 0), (254, .iconst 1, 255, 0), (255, .iadd, 256, 0), (256, .putfield 75, 259, 0), (259, .aload_n 0, 260, 0), (260, .getfield 75, 263, 0), (263, .iconst 1, 264, 0), (264, .isub, 265, 0), (265, .ireturn, 266, 0)]
def tb_Mo_order : List (Nat × Instr × Nat × Nat) := tb_Mo_order_1 ++ (tb_Mo_order_2 ++ (tb_Mo_order_3 ++ (tb_Mo_order_4 ++ tb_Mo_order_5)))
def M_Mo_order : ax_M := (9, (some .int), tb_Mo_order, [], false)
def m_Mo_order : Nat := 110
def tb_Mo_history_1 : List (Nat × Instr × Nat × Nat) := [(0, .aload_n 0, 1, 0), (1, .iload_n 1, 2, 0), (2, .ifCond .lt 25, 5, 27), (5, .iload_n 1, 6, 0), (6, .aload_n 0, 7, 0), (7, .getfield 75, 10, 0), (10, .if_icmp .ge 17, 13, 27), (13, .iload_n 2, 14, 0), (14, .ifCond .lt 13, 17, 27), (17, .iload_n 2, 18, 0), (18, .bipush 7, 20, 0), (20, .if_icmp .ge 7, 23, 27), (23, .iconst 0, 24, 0), (24, .goto 4, 27, 28), (27, .iconst 1, 28, 0), (28, .putfield 78, 31, 0), (31, .aload_n 0, 32, 0), (32, .getfield 78, 35, 0), (35, .ifCond .ne 18, 38, 53), (38, .aload_n 0, 39, 0), (39, .getfield 47, 42, 0), (42, .bipush 7, 44, 0), (44, .iload_n 1, 45, 0), (45, .imul, 46, 0), (46, .iload_n 2, 47, 0), (47, .iadd, 48, 0), (48, .laload, 49, 0), (49, .l2i, 50, 0), (50, .goto 4, 53, 54), (53, .iconst 0, 54, 0)]
def tb_Mo_history_2 : List (Nat × Instr × Nat × Nat) := [(54, .ireturn, 55, 0)]
def tb_Mo_history : List (Nat × Instr × Nat × Nat) := tb_Mo_history_1 ++ tb_Mo_history_2
def M_Mo_history : ax_M := (9, (some .int), tb_Mo_history, [], false)
def m_Mo_history : Nat := 111
def tb_La_thing : List (Nat × Instr × Nat × Nat) := [(0, .aload 5, 2, 0), (2, .iconst 0, 3, 0), (3, .aload_n 0, 4, 0), (4, .iload_n 1, 5, 0), (5, .lload_n 2, 6, 0), (6, .iload 4, 8, 0), (8, .invokevirtual 7, 11, 0), (11, .i2l, 12, 0), (12, .lastore, 13, 0), (13, .goto 11, 16, 24), (16, .astore 6, 18, 0), (18, .iconst 1, 19, 0), (19, .ireturn, 20, 0), (20, .astore 6, 22, 0), (22, .iconst 2, 23, 0), (23, .ireturn, 24, 0), (24, .iconst 0, 25, 0), (25, .ireturn, 26, 0)]
def M_La_thing : ax_M := (10, (some .int), tb_La_thing, [(0, 13, 16, 13), (0, 13, 20, 15)], false)
def m_La_thing : Nat := 112
def tb_La_at : List (Nat × Instr × Nat × Nat) := [(0, .aload 6, 2, 0), (2, .iconst 0, 3, 0), (3, .aload_n 0, 4, 0), (4, .iload_n 1, 5, 0), (5, .lload_n 2, 6, 0), (6, .lload 4, 8, 0), (8, .invokevirtual 17, 11, 0), (11, .ifCond .eq 7, 14, 18), (14, .lconst 1, 15, 0), (15, .goto 4, 18, 19), (18, .lconst 0, 19, 0), (19, .lastore, 20, 0), (20, .goto 11, 23, 31), (23, .astore 7, 25, 0), (25, .iconst 1, 26, 0), (26, .ireturn, 27, 0), (27, .astore 7, 29, 0), (29, .iconst 2, 30, 0), (30, .ireturn, 31, 0), (31, .iconst 0, 32, 0), (32, .ireturn, 33, 0)]
def M_La_at : ax_M := (10, (some .int), tb_La_at, [(0, 20, 23, 13), (0, 20, 27, 15)], false)
def m_La_at : Nat := 113
def tb_La_run : List (Nat × Instr × Nat × Nat) := [(0, .aload_n 3, 1, 0), (1, .iconst 0, 2, 0), (2, .aload_n 0, 3, 0), (3, .iload_n 1, 4, 0), (4, .iload_n 2, 5, 0), (5, .invokevirtual 21, 8, 0), (8, .i2l, 9, 0), (9, .lastore, 10, 0), (10, .goto 7, 13, 17), (13, .astore 4, 15, 0), (15, .iconst 1, 16, 0), (16, .ireturn, 17, 0), (17, .iconst 0, 18, 0), (18, .ireturn, 19, 0)]
def M_La_run : ax_M := (10, (some .int), tb_La_run, [(0, 10, 13, 13)], false)
def m_La_run : Nat := 114
def tb_La_remark : List (Nat × Instr × Nat × Nat) := [(0, .aload_n 3, 1, 0), (1, .iconst 0, 2, 0), (2, .aload_n 0, 3, 0), (3, .iload_n 1, 4, 0), (4, .iload_n 2, 5, 0), (5, .invokevirtual 25, 8, 0), (8, .i2l, 9, 0), (9, .lastore, 10, 0), (10, .goto 7, 13, 17), (13, .astore 4, 15, 0), (15, .iconst 1, 16, 0), (16, .ireturn, 17, 0), (17, .iconst 0, 18, 0), (18, .ireturn, 19, 0)]
def M_La_remark : ax_M := (10, (some .int), tb_La_remark, [(0, 10, 13, 13)], false)
def m_La_remark : Nat := 115
def tb_La_least : List (Nat × Instr × Nat × Nat) := [(0, .aload_n 2, 1, 0), (1, .iconst 0, 2, 0), (2, .aload_n 0, 3, 0), (3, .iload_n 1, 4, 0), (4, .invokevirtual 28, 7, 0), (7, .i2l, 8, 0), (8, .lastore, 9, 0), (9, .goto 6, 12, 15), (12, .astore_n 3, 13, 0), (13, .iconst 1, 14, 0), (14, .ireturn, 15, 0), (15, .iconst 0, 16, 0), (16, .ireturn, 17, 0)]
def M_La_least : ax_M := (10, (some .int), tb_La_least, [(0, 9, 12, 13)], false)
def m_La_least : Nat := 116
def tb_La_price : List (Nat × Instr × Nat × Nat) := [(0, .aload 5, 2, 0), (2, .iconst 0, 3, 0), (3, .aload_n 0, 4, 0), (4, .iload_n 1, 5, 0), (5, .iload_n 2, 6, 0), (6, .lload_n 3, 7, 0), (7, .invokevirtual 32, 10, 0), (10, .lastore, 11, 0), (11, .goto 11, 14, 22), (14, .astore 6, 16, 0), (16, .iconst 1, 17, 0), (17, .ireturn, 18, 0), (18, .astore 6, 20, 0), (20, .iconst 2, 21, 0), (21, .ireturn, 22, 0), (22, .iconst 0, 23, 0), (23, .ireturn, 24, 0)]
def M_La_price : ax_M := (10, (some .int), tb_La_price, [(0, 11, 14, 13), (0, 11, 18, 15)], false)
def m_La_price : Nat := 117
def tb_La_share : List (Nat × Instr × Nat × Nat) := [(0, .aload 6, 2, 0), (2, .iconst 0, 3, 0), (3, .aload_n 0, 4, 0), (4, .lload_n 1, 5, 0), (5, .lload_n 3, 6, 0), (6, .iload 5, 8, 0), (8, .invokevirtual 36, 11, 0), (11, .lastore, 12, 0), (12, .goto 11, 15, 23), (15, .astore 7, 17, 0), (17, .iconst 1, 18, 0), (18, .ireturn, 19, 0), (19, .astore 7, 21, 0), (21, .iconst 2, 22, 0), (22, .ireturn, 23, 0), (23, .iconst 0, 24, 0), (24, .ireturn, 25, 0)]
def M_La_share : ax_M := (10, (some .int), tb_La_share, [(0, 12, 15, 13), (0, 12, 19, 15)], false)
def m_La_share : Nat := 118
def tb_La_balance : List (Nat × Instr × Nat × Nat) := [(0, .aload 4, 2, 0), (2, .iconst 0, 3, 0), (3, .aload_n 0, 4, 0), (4, .iload_n 1, 5, 0), (5, .iload_n 2, 6, 0), (6, .iload_n 3, 7, 0), (7, .invokevirtual 40, 10, 0), (10, .lastore, 11, 0), (11, .goto 7, 14, 18), (14, .astore 5, 16, 0), (16, .iconst 1, 17, 0), (17, .ireturn, 18, 0), (18, .iconst 0, 19, 0), (19, .ireturn, 20, 0)]
def M_La_balance : ax_M := (10, (some .int), tb_La_balance, [(0, 11, 14, 13)], false)
def m_La_balance : Nat := 119
def tb_La_quote : List (Nat × Instr × Nat × Nat) := [(0, .aload 4, 2, 0), (2, .iconst 0, 3, 0), (3, .aload_n 0, 4, 0), (4, .iload_n 1, 5, 0), (5, .lload_n 2, 6, 0), (6, .invokevirtual 44, 9, 0), (9, .i2l, 10, 0), (10, .lastore, 11, 0), (11, .goto 7, 14, 18), (14, .astore 5, 16, 0), (16, .iconst 1, 17, 0), (17, .ireturn, 18, 0), (18, .iconst 0, 19, 0), (19, .ireturn, 20, 0)]
def M_La_quote : ax_M := (10, (some .int), tb_La_quote, [(0, 11, 14, 13)], false)
def m_La_quote : Nat := 120
def tb_La_copper : List (Nat × Instr × Nat × Nat) := [(0, .aload 7, 2, 0), (2, .iconst 0, 3, 0), (3, .aload_n 0, 4, 0), (4, .iload_n 1, 5, 0), (5, .iload_n 2, 6, 0), (6, .lload_n 3, 7, 0), (7, .lload 5, 9, 0), (9, .invokevirtual 48, 12, 0), (12, .ifCond .eq 7, 15, 19), (15, .lconst 1, 16, 0), (16, .goto 4, 19, 20), (19, .lconst 0, 20, 0), (20, .lastore, 21, 0), (21, .goto 11, 24, 32), (24, .astore 8, 26, 0), (26, .iconst 1, 27, 0), (27, .ireturn, 28, 0), (28, .astore 8, 30, 0), (30, .iconst 2, 31, 0), (31, .ireturn, 32, 0), (32, .iconst 0, 33, 0), (33, .ireturn, 34, 0)]
def M_La_copper : ax_M := (10, (some .int), tb_La_copper, [(0, 21, 24, 13), (0, 21, 28, 15)], false)
def m_La_copper : Nat := 121
def tb_La_best : List (Nat × Instr × Nat × Nat) := [(0, .aload_n 3, 1, 0), (1, .iconst 0, 2, 0), (2, .aload_n 0, 3, 0), (3, .lload_n 1, 4, 0), (4, .invokevirtual 52, 7, 0), (7, .i2l, 8, 0), (8, .lastore, 9, 0), (9, .goto 7, 12, 16), (12, .astore 4, 14, 0), (14, .iconst 1, 15, 0), (15, .ireturn, 16, 0), (16, .iconst 0, 17, 0), (17, .ireturn, 18, 0)]
def M_La_best : ax_M := (10, (some .int), tb_La_best, [(0, 9, 12, 15)], false)
def m_La_best : Nat := 122
def tb_La_order : List (Nat × Instr × Nat × Nat) := [(0, .aload 6, 2, 0), (2, .iconst 0, 3, 0), (3, .aload_n 0, 4, 0), (4, .iload_n 1, 5, 0), (5, .lload_n 2, 6, 0), (6, .lload 4, 8, 0), (8, .invokevirtual 56, 11, 0), (11, .i2l, 12, 0), (12, .lastore, 13, 0), (13, .goto 11, 16, 24), (16, .astore 7, 18, 0), (18, .iconst 1, 19, 0), (19, .ireturn, 20, 0), (20, .astore 7, 22, 0), (22, .iconst 2, 23, 0), (23, .ireturn, 24, 0), (24, .iconst 0, 25, 0), (25, .ireturn, 26, 0)]
def M_La_order : ax_M := (10, (some .int), tb_La_order, [(0, 13, 16, 13), (0, 13, 20, 15)], false)
def m_La_order : Nat := 123
def tb_La_history : List (Nat × Instr × Nat × Nat) := [(0, .aload_n 3, 1, 0), (1, .iconst 0, 2, 0), (2, .aload_n 0, 3, 0), (3, .iload_n 1, 4, 0), (4, .iload_n 2, 5, 0), (5, .invokevirtual 60, 8, 0), (8, .i2l, 9, 0), (9, .lastore, 10, 0), (10, .goto 7, 13, 17), (13, .astore 4, 15, 0), (15, .iconst 1, 16, 0), (16, .ireturn, 17, 0), (17, .iconst 0, 18, 0), (18, .ireturn, 19, 0)]
def M_La_history : ax_M := (10, (some .int), tb_La_history, [(0, 10, 13, 13)], false)
def m_La_history : Nat := 124
def tb_La_law_1 : List (Nat × Instr × Nat × Nat) := [(0, .new 8, 3, 0), (3, .dup, 4, 0), (4, .invokespecial 63, 7, 0), (7, .astore_n 1, 8, 0), (8, .new 64, 11, 0), (11, .dup, 12, 0), (12, .invokespecial 66, 15, 0), (15, .astore_n 2, 16, 0), (16, .iconst 1, 17, 0), (17, .newarray .long, 19, 0), (19, .astore_n 3, 20, 0), (20, .iconst 0, 21, 0), (21, .istore 4, 23, 0), (23, .iload 4, 25, 0), (25, .aload_n 0, 26, 0), (26, .arraylength, 27, 0), (27, .bipush 7, 29, 0), (29, .isub, 30, 0), (30, .if_icmp .gt 1498, 33, 1528), (33, .aload_n 0, 34, 0), (34, .iload 4, 36, 0), (36, .iaload, 37, 0), (37, .bipush 15, 39, 0), (39, .iand, 40, 0), (40, .tableswitch 1482 0 15 #[80, 105, 118, 230, 381, 449, 517, 573, 684, 827, 906, 1006, 1171, 1259, 1403, 1471], 120, 0), (120, .aload_n 1, 121, 0), (121, .aload_n 0, 122, 0), (122, .iload 4, 124, 0), (124, .iconst 1, 125, 0), (125, .iadd, 126, 0)]
def tb_La_law_2 : List (Nat × Instr × Nat × Nat) := [(126, .iaload, 127, 0), (127, .invokevirtual 67, 130, 0), (130, .aload_n 2, 131, 0), (131, .aload_n 0, 132, 0), (132, .iload 4, 134, 0), (134, .iconst 1, 135, 0), (135, .iadd, 136, 0), (136, .iaload, 137, 0), (137, .invokevirtual 71, 140, 0), (140, .if_icmp .eq 1382, 143, 1522), (143, .iconst 0, 144, 0), (144, .ireturn, 145, 0), (145, .aload_n 1, 146, 0), (146, .invokevirtual 72, 149, 0), (149, .aload_n 2, 150, 0), (150, .invokevirtual 76, 153, 0), (153, .if_icmp .eq 1369, 156, 1522), (156, .iconst 0, 157, 0), (157, .ireturn, 158, 0), (158, .aload_n 1, 159, 0), (159, .aload_n 0, 160, 0), (160, .iload 4, 162, 0), (162, .iconst 1, 163, 0), (163, .iadd, 164, 0), (164, .iaload, 165, 0), (165, .aload_n 0, 166, 0), (166, .iload 4, 168, 0), (168, .iconst 2, 169, 0), (169, .iadd, 170, 0), (170, .iaload, 171, 0)]
def tb_La_law_3 : List (Nat × Instr × Nat × Nat) := [(171, .i2l, 172, 0), (172, .bipush 32, 174, 0), (174, .lshl, 175, 0), (175, .aload_n 0, 176, 0), (176, .iload 4, 178, 0), (178, .iconst 3, 179, 0), (179, .iadd, 180, 0), (180, .iaload, 181, 0), (181, .i2l, 182, 0), (182, .ldc2_w 77, 185, 0), (185, .land, 186, 0), (186, .lor, 187, 0), (187, .aload_n 0, 188, 0), (188, .iload 4, 190, 0), (190, .iconst 4, 191, 0), (191, .iadd, 192, 0), (192, .iaload, 193, 0), (193, .aload_n 3, 194, 0), (194, .invokestatic 79, 197, 0), (197, .istore 5, 199, 0), (199, .aload_n 2, 200, 0), (200, .aload_n 0, 201, 0), (201, .iload 4, 203, 0), (203, .iconst 1, 204, 0), (204, .iadd, 205, 0), (205, .iaload, 206, 0), (206, .aload_n 0, 207, 0), (207, .iload 4, 209, 0), (209, .iconst 2, 210, 0), (210, .iadd, 211, 0)]
def tb_La_law_4 : List (Nat × Instr × Nat × Nat) := [(211, .iaload, 212, 0), (212, .i2l, 213, 0), (213, .bipush 32, 215, 0), (215, .lshl, 216, 0), (216, .aload_n 0, 217, 0), (217, .iload 4, 219, 0), (219, .iconst 3, 220, 0), (220, .iadd, 221, 0), (221, .iaload, 222, 0), (222, .i2l, 223, 0), (223, .ldc2_w 77, 226, 0), (226, .land, 227, 0), (227, .lor, 228, 0), (228, .aload_n 0, 229, 0), (229, .iload 4, 231, 0), (231, .iconst 4, 232, 0), (232, .iadd, 233, 0), (233, .iaload, 234, 0), (234, .invokevirtual 84, 237, 0), (237, .istore 6, 239, 0), (239, .aload_n 2, 240, 0), (240, .invokevirtual 85, 243, 0), (243, .iload 5, 245, 0), (245, .if_icmp .eq 5, 248, 250), (248, .iconst 0, 249, 0), (249, .ireturn, 250, 0), (250, .iload 5, 252, 0), (252, .ifCond .ne 15, 255, 267), (255, .aload_n 3, 256, 0), (256, .iconst 0, 257, 0)]
def tb_La_law_5 : List (Nat × Instr × Nat × Nat) := [(257, .laload, 258, 0), (258, .iload 6, 260, 0), (260, .i2l, 261, 0), (261, .lcmp, 262, 0), (262, .ifCond .eq 5, 265, 267), (265, .iconst 0, 266, 0), (266, .ireturn, 267, 0), (267, .goto 1255, 270, 1522), (270, .aload_n 1, 271, 0), (271, .aload_n 0, 272, 0), (272, .iload 4, 274, 0), (274, .iconst 1, 275, 0), (275, .iadd, 276, 0), (276, .iaload, 277, 0), (277, .aload_n 0, 278, 0), (278, .iload 4, 280, 0), (280, .iconst 2, 281, 0), (281, .iadd, 282, 0), (282, .iaload, 283, 0), (283, .i2l, 284, 0), (284, .bipush 32, 286, 0), (286, .lshl, 287, 0), (287, .aload_n 0, 288, 0), (288, .iload 4, 290, 0), (290, .iconst 3, 291, 0), (291, .iadd, 292, 0), (292, .iaload, 293, 0), (293, .i2l, 294, 0), (294, .ldc2_w 77, 297, 0), (297, .land, 298, 0)]
def tb_La_law_6 : List (Nat × Instr × Nat × Nat) := [(298, .lor, 299, 0), (299, .aload_n 0, 300, 0), (300, .iload 4, 302, 0), (302, .iconst 4, 303, 0), (303, .iadd, 304, 0), (304, .iaload, 305, 0), (305, .i2l, 306, 0), (306, .bipush 32, 308, 0), (308, .lshl, 309, 0), (309, .aload_n 0, 310, 0), (310, .iload 4, 312, 0), (312, .iconst 5, 313, 0), (313, .iadd, 314, 0), (314, .iaload, 315, 0), (315, .i2l, 316, 0), (316, .ldc2_w 77, 319, 0), (319, .land, 320, 0), (320, .lor, 321, 0), (321, .aload_n 3, 322, 0), (322, .invokestatic 88, 325, 0), (325, .istore 5, 327, 0), (327, .aload_n 2, 328, 0), (328, .aload_n 0, 329, 0), (329, .iload 4, 331, 0), (331, .iconst 1, 332, 0), (332, .iadd, 333, 0), (333, .iaload, 334, 0), (334, .aload_n 0, 335, 0), (335, .iload 4, 337, 0), (337, .iconst 2, 338, 0)]
def tb_La_law_7 : List (Nat × Instr × Nat × Nat) := [(338, .iadd, 339, 0), (339, .iaload, 340, 0), (340, .i2l, 341, 0), (341, .bipush 32, 343, 0), (343, .lshl, 344, 0), (344, .aload_n 0, 345, 0), (345, .iload 4, 347, 0), (347, .iconst 3, 348, 0), (348, .iadd, 349, 0), (349, .iaload, 350, 0), (350, .i2l, 351, 0), (351, .ldc2_w 77, 354, 0), (354, .land, 355, 0), (355, .lor, 356, 0), (356, .aload_n 0, 357, 0), (357, .iload 4, 359, 0), (359, .iconst 4, 360, 0), (360, .iadd, 361, 0), (361, .iaload, 362, 0), (362, .i2l, 363, 0), (363, .bipush 32, 365, 0), (365, .lshl, 366, 0), (366, .aload_n 0, 367, 0), (367, .iload 4, 369, 0), (369, .iconst 5, 370, 0), (370, .iadd, 371, 0), (371, .iaload, 372, 0), (372, .i2l, 373, 0), (373, .ldc2_w 77, 376, 0), (376, .land, 377, 0)]
def tb_La_law_8 : List (Nat × Instr × Nat × Nat) := [(377, .lor, 378, 0), (378, .invokevirtual 91, 381, 0), (381, .istore 6, 383, 0), (383, .aload_n 2, 384, 0), (384, .invokevirtual 85, 387, 0), (387, .iload 5, 389, 0), (389, .if_icmp .eq 5, 392, 394), (392, .iconst 0, 393, 0), (393, .ireturn, 394, 0), (394, .iload 5, 396, 0), (396, .ifCond .ne 22, 399, 418), (399, .aload_n 3, 400, 0), (400, .iconst 0, 401, 0), (401, .laload, 402, 0), (402, .iload 6, 404, 0), (404, .ifCond .eq 7, 407, 411), (407, .lconst 1, 408, 0), (408, .goto 4, 411, 412), (411, .lconst 0, 412, 0), (412, .lcmp, 413, 0), (413, .ifCond .eq 5, 416, 418), (416, .iconst 0, 417, 0), (417, .ireturn, 418, 0), (418, .goto 1104, 421, 1522), (421, .aload_n 1, 422, 0), (422, .aload_n 0, 423, 0), (423, .iload 4, 425, 0), (425, .iconst 1, 426, 0), (426, .iadd, 427, 0), (427, .iaload, 428, 0)]
def tb_La_law_9 : List (Nat × Instr × Nat × Nat) := [(428, .aload_n 0, 429, 0), (429, .iload 4, 431, 0), (431, .iconst 2, 432, 0), (432, .iadd, 433, 0), (433, .iaload, 434, 0), (434, .aload_n 3, 435, 0), (435, .invokestatic 92, 438, 0), (438, .istore 5, 440, 0), (440, .aload_n 2, 441, 0), (441, .aload_n 0, 442, 0), (442, .iload 4, 444, 0), (444, .iconst 1, 445, 0), (445, .iadd, 446, 0), (446, .iaload, 447, 0), (447, .aload_n 0, 448, 0), (448, .iload 4, 450, 0), (450, .iconst 2, 451, 0), (451, .iadd, 452, 0), (452, .iaload, 453, 0), (453, .invokevirtual 95, 456, 0), (456, .istore 6, 458, 0), (458, .aload_n 2, 459, 0), (459, .invokevirtual 85, 462, 0), (462, .iload 5, 464, 0), (464, .if_icmp .eq 5, 467, 469), (467, .iconst 0, 468, 0), (468, .ireturn, 469, 0), (469, .iload 5, 471, 0), (471, .ifCond .ne 15, 474, 486), (474, .aload_n 3, 475, 0)]
def tb_La_law_10 : List (Nat × Instr × Nat × Nat) := [(475, .iconst 0, 476, 0), (476, .laload, 477, 0), (477, .iload 6, 479, 0), (479, .i2l, 480, 0), (480, .lcmp, 481, 0), (481, .ifCond .eq 5, 484, 486), (484, .iconst 0, 485, 0), (485, .ireturn, 486, 0), (486, .goto 1036, 489, 1522), (489, .aload_n 1, 490, 0), (490, .aload_n 0, 491, 0), (491, .iload 4, 493, 0), (493, .iconst 1, 494, 0), (494, .iadd, 495, 0), (495, .iaload, 496, 0), (496, .aload_n 0, 497, 0), (497, .iload 4, 499, 0), (499, .iconst 2, 500, 0), (500, .iadd, 501, 0), (501, .iaload, 502, 0), (502, .aload_n 3, 503, 0), (503, .invokestatic 96, 506, 0), (506, .istore 5, 508, 0), (508, .aload_n 2, 509, 0), (509, .aload_n 0, 510, 0), (510, .iload 4, 512, 0), (512, .iconst 1, 513, 0), (513, .iadd, 514, 0), (514, .iaload, 515, 0), (515, .aload_n 0, 516, 0)]
def tb_La_law_11 : List (Nat × Instr × Nat × Nat) := [(516, .iload 4, 518, 0), (518, .iconst 2, 519, 0), (519, .iadd, 520, 0), (520, .iaload, 521, 0), (521, .invokevirtual 98, 524, 0), (524, .istore 6, 526, 0), (526, .aload_n 2, 527, 0), (527, .invokevirtual 85, 530, 0), (530, .iload 5, 532, 0), (532, .if_icmp .eq 5, 535, 537), (535, .iconst 0, 536, 0), (536, .ireturn, 537, 0), (537, .iload 5, 539, 0), (539, .ifCond .ne 15, 542, 554), (542, .aload_n 3, 543, 0), (543, .iconst 0, 544, 0), (544, .laload, 545, 0), (545, .iload 6, 547, 0), (547, .i2l, 548, 0), (548, .lcmp, 549, 0), (549, .ifCond .eq 5, 552, 554), (552, .iconst 0, 553, 0), (553, .ireturn, 554, 0), (554, .goto 968, 557, 1522), (557, .aload_n 1, 558, 0), (558, .aload_n 0, 559, 0), (559, .iload 4, 561, 0), (561, .iconst 1, 562, 0), (562, .iadd, 563, 0), (563, .iaload, 564, 0)]
def tb_La_law_12 : List (Nat × Instr × Nat × Nat) := [(564, .aload_n 3, 565, 0), (565, .invokestatic 99, 568, 0), (568, .istore 5, 570, 0), (570, .aload_n 2, 571, 0), (571, .aload_n 0, 572, 0), (572, .iload 4, 574, 0), (574, .iconst 1, 575, 0), (575, .iadd, 576, 0), (576, .iaload, 577, 0), (577, .invokevirtual 102, 580, 0), (580, .istore 6, 582, 0), (582, .aload_n 2, 583, 0), (583, .invokevirtual 85, 586, 0), (586, .iload 5, 588, 0), (588, .if_icmp .eq 5, 591, 593), (591, .iconst 0, 592, 0), (592, .ireturn, 593, 0), (593, .iload 5, 595, 0), (595, .ifCond .ne 15, 598, 610), (598, .aload_n 3, 599, 0), (599, .iconst 0, 600, 0), (600, .laload, 601, 0), (601, .iload 6, 603, 0), (603, .i2l, 604, 0), (604, .lcmp, 605, 0), (605, .ifCond .eq 5, 608, 610), (608, .iconst 0, 609, 0), (609, .ireturn, 610, 0), (610, .goto 912, 613, 1522), (613, .aload_n 1, 614, 0)]
def tb_La_law_13 : List (Nat × Instr × Nat × Nat) := [(614, .aload_n 0, 615, 0), (615, .iload 4, 617, 0), (617, .iconst 1, 618, 0), (618, .iadd, 619, 0), (619, .iaload, 620, 0), (620, .aload_n 0, 621, 0), (621, .iload 4, 623, 0), (623, .iconst 2, 624, 0), (624, .iadd, 625, 0), (625, .iaload, 626, 0), (626, .aload_n 0, 627, 0), (627, .iload 4, 629, 0), (629, .iconst 3, 630, 0), (630, .iadd, 631, 0), (631, .iaload, 632, 0), (632, .i2l, 633, 0), (633, .bipush 32, 635, 0), (635, .lshl, 636, 0), (636, .aload_n 0, 637, 0), (637, .iload 4, 639, 0), (639, .iconst 4, 640, 0), (640, .iadd, 641, 0), (641, .iaload, 642, 0), (642, .i2l, 643, 0), (643, .ldc2_w 77, 646, 0), (646, .land, 647, 0), (647, .lor, 648, 0), (648, .aload_n 3, 649, 0), (649, .invokestatic 103, 652, 0), (652, .istore 5, 654, 0)]
def tb_La_law_14 : List (Nat × Instr × Nat × Nat) := [(654, .aload_n 2, 655, 0), (655, .aload_n 0, 656, 0), (656, .iload 4, 658, 0), (658, .iconst 1, 659, 0), (659, .iadd, 660, 0), (660, .iaload, 661, 0), (661, .aload_n 0, 662, 0), (662, .iload 4, 664, 0), (664, .iconst 2, 665, 0), (665, .iadd, 666, 0), (666, .iaload, 667, 0), (667, .aload_n 0, 668, 0), (668, .iload 4, 670, 0), (670, .iconst 3, 671, 0), (671, .iadd, 672, 0), (672, .iaload, 673, 0), (673, .i2l, 674, 0), (674, .bipush 32, 676, 0), (676, .lshl, 677, 0), (677, .aload_n 0, 678, 0), (678, .iload 4, 680, 0), (680, .iconst 4, 681, 0), (681, .iadd, 682, 0), (682, .iaload, 683, 0), (683, .i2l, 684, 0), (684, .ldc2_w 77, 687, 0), (687, .land, 688, 0), (688, .lor, 689, 0), (689, .invokevirtual 106, 692, 0), (692, .lstore 6, 694, 0)]
def tb_La_law_15 : List (Nat × Instr × Nat × Nat) := [(694, .aload_n 2, 695, 0), (695, .invokevirtual 85, 698, 0), (698, .iload 5, 700, 0), (700, .if_icmp .eq 5, 703, 705), (703, .iconst 0, 704, 0), (704, .ireturn, 705, 0), (705, .iload 5, 707, 0), (707, .ifCond .ne 14, 710, 721), (710, .aload_n 3, 711, 0), (711, .iconst 0, 712, 0), (712, .laload, 713, 0), (713, .lload 6, 715, 0), (715, .lcmp, 716, 0), (716, .ifCond .eq 5, 719, 721), (719, .iconst 0, 720, 0), (720, .ireturn, 721, 0), (721, .goto 801, 724, 1522), (724, .aload_n 1, 725, 0), (725, .aload_n 0, 726, 0), (726, .iload 4, 728, 0), (728, .iconst 1, 729, 0), (729, .iadd, 730, 0), (730, .iaload, 731, 0), (731, .i2l, 732, 0), (732, .bipush 32, 734, 0), (734, .lshl, 735, 0), (735, .aload_n 0, 736, 0), (736, .iload 4, 738, 0), (738, .iconst 2, 739, 0), (739, .iadd, 740, 0)]
def tb_La_law_16 : List (Nat × Instr × Nat × Nat) := [(740, .iaload, 741, 0), (741, .i2l, 742, 0), (742, .ldc2_w 77, 745, 0), (745, .land, 746, 0), (746, .lor, 747, 0), (747, .aload_n 0, 748, 0), (748, .iload 4, 750, 0), (750, .iconst 3, 751, 0), (751, .iadd, 752, 0), (752, .iaload, 753, 0), (753, .i2l, 754, 0), (754, .bipush 32, 756, 0), (756, .lshl, 757, 0), (757, .aload_n 0, 758, 0), (758, .iload 4, 760, 0), (760, .iconst 4, 761, 0), (761, .iadd, 762, 0), (762, .iaload, 763, 0), (763, .i2l, 764, 0), (764, .ldc2_w 77, 767, 0), (767, .land, 768, 0), (768, .lor, 769, 0), (769, .aload_n 0, 770, 0), (770, .iload 4, 772, 0), (772, .iconst 5, 773, 0), (773, .iadd, 774, 0), (774, .iaload, 775, 0), (775, .aload_n 3, 776, 0), (776, .invokestatic 107, 779, 0), (779, .istore 5, 781, 0)]
def tb_La_law_17 : List (Nat × Instr × Nat × Nat) := [(781, .aload_n 2, 782, 0), (782, .aload_n 0, 783, 0), (783, .iload 4, 785, 0), (785, .iconst 1, 786, 0), (786, .iadd, 787, 0), (787, .iaload, 788, 0), (788, .i2l, 789, 0), (789, .bipush 32, 791, 0), (791, .lshl, 792, 0), (792, .aload_n 0, 793, 0), (793, .iload 4, 795, 0), (795, .iconst 2, 796, 0), (796, .iadd, 797, 0), (797, .iaload, 798, 0), (798, .i2l, 799, 0), (799, .ldc2_w 77, 802, 0), (802, .land, 803, 0), (803, .lor, 804, 0), (804, .aload_n 0, 805, 0), (805, .iload 4, 807, 0), (807, .iconst 3, 808, 0), (808, .iadd, 809, 0), (809, .iaload, 810, 0), (810, .i2l, 811, 0), (811, .bipush 32, 813, 0), (813, .lshl, 814, 0), (814, .aload_n 0, 815, 0), (815, .iload 4, 817, 0), (817, .iconst 4, 818, 0), (818, .iadd, 819, 0)]
def tb_La_law_18 : List (Nat × Instr × Nat × Nat) := [(819, .iaload, 820, 0), (820, .i2l, 821, 0), (821, .ldc2_w 77, 824, 0), (824, .land, 825, 0), (825, .lor, 826, 0), (826, .aload_n 0, 827, 0), (827, .iload 4, 829, 0), (829, .iconst 5, 830, 0), (830, .iadd, 831, 0), (831, .iaload, 832, 0), (832, .invokevirtual 110, 835, 0), (835, .lstore 6, 837, 0), (837, .aload_n 2, 838, 0), (838, .invokevirtual 85, 841, 0), (841, .iload 5, 843, 0), (843, .if_icmp .eq 5, 846, 848), (846, .iconst 0, 847, 0), (847, .ireturn, 848, 0), (848, .iload 5, 850, 0), (850, .ifCond .ne 14, 853, 864), (853, .aload_n 3, 854, 0), (854, .iconst 0, 855, 0), (855, .laload, 856, 0), (856, .lload 6, 858, 0), (858, .lcmp, 859, 0), (859, .ifCond .eq 5, 862, 864), (862, .iconst 0, 863, 0), (863, .ireturn, 864, 0), (864, .goto 658, 867, 1522), (867, .aload_n 1, 868, 0)]
def tb_La_law_19 : List (Nat × Instr × Nat × Nat) := [(868, .aload_n 0, 869, 0), (869, .iload 4, 871, 0), (871, .iconst 1, 872, 0), (872, .iadd, 873, 0), (873, .iaload, 874, 0), (874, .aload_n 0, 875, 0), (875, .iload 4, 877, 0), (877, .iconst 2, 878, 0), (878, .iadd, 879, 0), (879, .iaload, 880, 0), (880, .aload_n 0, 881, 0), (881, .iload 4, 883, 0), (883, .iconst 3, 884, 0), (884, .iadd, 885, 0), (885, .iaload, 886, 0), (886, .aload_n 3, 887, 0), (887, .invokestatic 111, 890, 0), (890, .istore 5, 892, 0), (892, .aload_n 2, 893, 0), (893, .aload_n 0, 894, 0), (894, .iload 4, 896, 0), (896, .iconst 1, 897, 0), (897, .iadd, 898, 0), (898, .iaload, 899, 0), (899, .aload_n 0, 900, 0), (900, .iload 4, 902, 0), (902, .iconst 2, 903, 0), (903, .iadd, 904, 0), (904, .iaload, 905, 0), (905, .aload_n 0, 906, 0)]
def tb_La_law_20 : List (Nat × Instr × Nat × Nat) := [(906, .iload 4, 908, 0), (908, .iconst 3, 909, 0), (909, .iadd, 910, 0), (910, .iaload, 911, 0), (911, .invokevirtual 114, 914, 0), (914, .lstore 6, 916, 0), (916, .aload_n 2, 917, 0), (917, .invokevirtual 85, 920, 0), (920, .iload 5, 922, 0), (922, .if_icmp .eq 5, 925, 927), (925, .iconst 0, 926, 0), (926, .ireturn, 927, 0), (927, .iload 5, 929, 0), (929, .ifCond .ne 14, 932, 943), (932, .aload_n 3, 933, 0), (933, .iconst 0, 934, 0), (934, .laload, 935, 0), (935, .lload 6, 937, 0), (937, .lcmp, 938, 0), (938, .ifCond .eq 5, 941, 943), (941, .iconst 0, 942, 0), (942, .ireturn, 943, 0), (943, .goto 579, 946, 1522), (946, .aload_n 1, 947, 0), (947, .aload_n 0, 948, 0), (948, .iload 4, 950, 0), (950, .iconst 1, 951, 0), (951, .iadd, 952, 0), (952, .iaload, 953, 0), (953, .aload_n 0, 954, 0)]
def tb_La_law_21 : List (Nat × Instr × Nat × Nat) := [(954, .iload 4, 956, 0), (956, .iconst 2, 957, 0), (957, .iadd, 958, 0), (958, .iaload, 959, 0), (959, .i2l, 960, 0), (960, .bipush 32, 962, 0), (962, .lshl, 963, 0), (963, .aload_n 0, 964, 0), (964, .iload 4, 966, 0), (966, .iconst 3, 967, 0), (967, .iadd, 968, 0), (968, .iaload, 969, 0), (969, .i2l, 970, 0), (970, .ldc2_w 77, 973, 0), (973, .land, 974, 0), (974, .lor, 975, 0), (975, .aload_n 3, 976, 0), (976, .invokestatic 115, 979, 0), (979, .istore 5, 981, 0), (981, .aload_n 2, 982, 0), (982, .aload_n 0, 983, 0), (983, .iload 4, 985, 0), (985, .iconst 1, 986, 0), (986, .iadd, 987, 0), (987, .iaload, 988, 0), (988, .aload_n 0, 989, 0), (989, .iload 4, 991, 0), (991, .iconst 2, 992, 0), (992, .iadd, 993, 0), (993, .iaload, 994, 0)]
def tb_La_law_22 : List (Nat × Instr × Nat × Nat) := [(994, .i2l, 995, 0), (995, .bipush 32, 997, 0), (997, .lshl, 998, 0), (998, .aload_n 0, 999, 0), (999, .iload 4, 1001, 0), (1001, .iconst 3, 1002, 0), (1002, .iadd, 1003, 0), (1003, .iaload, 1004, 0), (1004, .i2l, 1005, 0), (1005, .ldc2_w 77, 1008, 0), (1008, .land, 1009, 0), (1009, .lor, 1010, 0), (1010, .invokevirtual 118, 1013, 0), (1013, .istore 6, 1015, 0), (1015, .aload_n 2, 1016, 0), (1016, .invokevirtual 85, 1019, 0), (1019, .iload 5, 1021, 0), (1021, .if_icmp .eq 5, 1024, 1026), (1024, .iconst 0, 1025, 0), (1025, .ireturn, 1026, 0), (1026, .iload 5, 1028, 0), (1028, .ifCond .ne 15, 1031, 1043), (1031, .aload_n 3, 1032, 0), (1032, .iconst 0, 1033, 0), (1033, .laload, 1034, 0), (1034, .iload 6, 1036, 0), (1036, .i2l, 1037, 0), (1037, .lcmp, 1038, 0), (1038, .ifCond .eq 5, 1041, 1043), (1041, .iconst 0, 1042, 0)]
def tb_La_law_23 : List (Nat × Instr × Nat × Nat) := [(1042, .ireturn, 1043, 0), (1043, .goto 479, 1046, 1522), (1046, .aload_n 1, 1047, 0), (1047, .aload_n 0, 1048, 0), (1048, .iload 4, 1050, 0), (1050, .iconst 1, 1051, 0), (1051, .iadd, 1052, 0), (1052, .iaload, 1053, 0), (1053, .aload_n 0, 1054, 0), (1054, .iload 4, 1056, 0), (1056, .iconst 2, 1057, 0), (1057, .iadd, 1058, 0), (1058, .iaload, 1059, 0), (1059, .aload_n 0, 1060, 0), (1060, .iload 4, 1062, 0), (1062, .iconst 3, 1063, 0), (1063, .iadd, 1064, 0), (1064, .iaload, 1065, 0), (1065, .i2l, 1066, 0), (1066, .bipush 32, 1068, 0), (1068, .lshl, 1069, 0), (1069, .aload_n 0, 1070, 0), (1070, .iload 4, 1072, 0), (1072, .iconst 4, 1073, 0), (1073, .iadd, 1074, 0), (1074, .iaload, 1075, 0), (1075, .i2l, 1076, 0), (1076, .ldc2_w 77, 1079, 0), (1079, .land, 1080, 0), (1080, .lor, 1081, 0)]
def tb_La_law_24 : List (Nat × Instr × Nat × Nat) := [(1081, .aload_n 0, 1082, 0), (1082, .iload 4, 1084, 0), (1084, .iconst 5, 1085, 0), (1085, .iadd, 1086, 0), (1086, .iaload, 1087, 0), (1087, .i2l, 1088, 0), (1088, .bipush 32, 1090, 0), (1090, .lshl, 1091, 0), (1091, .aload_n 0, 1092, 0), (1092, .iload 4, 1094, 0), (1094, .bipush 6, 1096, 0), (1096, .iadd, 1097, 0), (1097, .iaload, 1098, 0), (1098, .i2l, 1099, 0), (1099, .ldc2_w 77, 1102, 0), (1102, .land, 1103, 0), (1103, .lor, 1104, 0), (1104, .aload_n 3, 1105, 0), (1105, .invokestatic 119, 1108, 0), (1108, .istore 5, 1110, 0), (1110, .aload_n 2, 1111, 0), (1111, .aload_n 0, 1112, 0), (1112, .iload 4, 1114, 0), (1114, .iconst 1, 1115, 0), (1115, .iadd, 1116, 0), (1116, .iaload, 1117, 0), (1117, .aload_n 0, 1118, 0), (1118, .iload 4, 1120, 0), (1120, .iconst 2, 1121, 0), (1121, .iadd, 1122, 0)]
def tb_La_law_25 : List (Nat × Instr × Nat × Nat) := [(1122, .iaload, 1123, 0), (1123, .aload_n 0, 1124, 0), (1124, .iload 4, 1126, 0), (1126, .iconst 3, 1127, 0), (1127, .iadd, 1128, 0), (1128, .iaload, 1129, 0), (1129, .i2l, 1130, 0), (1130, .bipush 32, 1132, 0), (1132, .lshl, 1133, 0), (1133, .aload_n 0, 1134, 0), (1134, .iload 4, 1136, 0), (1136, .iconst 4, 1137, 0), (1137, .iadd, 1138, 0), (1138, .iaload, 1139, 0), (1139, .i2l, 1140, 0), (1140, .ldc2_w 77, 1143, 0), (1143, .land, 1144, 0), (1144, .lor, 1145, 0), (1145, .aload_n 0, 1146, 0), (1146, .iload 4, 1148, 0), (1148, .iconst 5, 1149, 0), (1149, .iadd, 1150, 0), (1150, .iaload, 1151, 0), (1151, .i2l, 1152, 0), (1152, .bipush 32, 1154, 0), (1154, .lshl, 1155, 0), (1155, .aload_n 0, 1156, 0), (1156, .iload 4, 1158, 0), (1158, .bipush 6, 1160, 0), (1160, .iadd, 1161, 0)]
def tb_La_law_26 : List (Nat × Instr × Nat × Nat) := [(1161, .iaload, 1162, 0), (1162, .i2l, 1163, 0), (1163, .ldc2_w 77, 1166, 0), (1166, .land, 1167, 0), (1167, .lor, 1168, 0), (1168, .invokevirtual 122, 1171, 0), (1171, .istore 6, 1173, 0), (1173, .aload_n 2, 1174, 0), (1174, .invokevirtual 85, 1177, 0), (1177, .iload 5, 1179, 0), (1179, .if_icmp .eq 5, 1182, 1184), (1182, .iconst 0, 1183, 0), (1183, .ireturn, 1184, 0), (1184, .iload 5, 1186, 0), (1186, .ifCond .ne 22, 1189, 1208), (1189, .aload_n 3, 1190, 0), (1190, .iconst 0, 1191, 0), (1191, .laload, 1192, 0), (1192, .iload 6, 1194, 0), (1194, .ifCond .eq 7, 1197, 1201), (1197, .lconst 1, 1198, 0), (1198, .goto 4, 1201, 1202), (1201, .lconst 0, 1202, 0), (1202, .lcmp, 1203, 0), (1203, .ifCond .eq 5, 1206, 1208), (1206, .iconst 0, 1207, 0), (1207, .ireturn, 1208, 0), (1208, .goto 314, 1211, 1522), (1211, .aload_n 1, 1212, 0), (1212, .aload_n 0, 1213, 0)]
def tb_La_law_27 : List (Nat × Instr × Nat × Nat) := [(1213, .iload 4, 1215, 0), (1215, .iconst 1, 1216, 0), (1216, .iadd, 1217, 0), (1217, .iaload, 1218, 0), (1218, .i2l, 1219, 0), (1219, .bipush 32, 1221, 0), (1221, .lshl, 1222, 0), (1222, .aload_n 0, 1223, 0), (1223, .iload 4, 1225, 0), (1225, .iconst 2, 1226, 0), (1226, .iadd, 1227, 0), (1227, .iaload, 1228, 0), (1228, .i2l, 1229, 0), (1229, .ldc2_w 77, 1232, 0), (1232, .land, 1233, 0), (1233, .lor, 1234, 0), (1234, .aload_n 3, 1235, 0), (1235, .invokestatic 123, 1238, 0), (1238, .istore 5, 1240, 0), (1240, .aload_n 2, 1241, 0), (1241, .aload_n 0, 1242, 0), (1242, .iload 4, 1244, 0), (1244, .iconst 1, 1245, 0), (1245, .iadd, 1246, 0), (1246, .iaload, 1247, 0), (1247, .i2l, 1248, 0), (1248, .bipush 32, 1250, 0), (1250, .lshl, 1251, 0), (1251, .aload_n 0, 1252, 0), (1252, .iload 4, 1254, 0)]
def tb_La_law_28 : List (Nat × Instr × Nat × Nat) := [(1254, .iconst 2, 1255, 0), (1255, .iadd, 1256, 0), (1256, .iaload, 1257, 0), (1257, .i2l, 1258, 0), (1258, .ldc2_w 77, 1261, 0), (1261, .land, 1262, 0), (1262, .lor, 1263, 0), (1263, .invokevirtual 126, 1266, 0), (1266, .istore 6, 1268, 0), (1268, .aload_n 2, 1269, 0), (1269, .invokevirtual 85, 1272, 0), (1272, .iload 5, 1274, 0), (1274, .if_icmp .eq 5, 1277, 1279), (1277, .iconst 0, 1278, 0), (1278, .ireturn, 1279, 0), (1279, .iload 5, 1281, 0), (1281, .ifCond .ne 15, 1284, 1296), (1284, .aload_n 3, 1285, 0), (1285, .iconst 0, 1286, 0), (1286, .laload, 1287, 0), (1287, .iload 6, 1289, 0), (1289, .i2l, 1290, 0), (1290, .lcmp, 1291, 0), (1291, .ifCond .eq 5, 1294, 1296), (1294, .iconst 0, 1295, 0), (1295, .ireturn, 1296, 0), (1296, .goto 226, 1299, 1522), (1299, .aload_n 1, 1300, 0), (1300, .aload_n 0, 1301, 0), (1301, .iload 4, 1303, 0)]
def tb_La_law_29 : List (Nat × Instr × Nat × Nat) := [(1303, .iconst 1, 1304, 0), (1304, .iadd, 1305, 0), (1305, .iaload, 1306, 0), (1306, .aload_n 0, 1307, 0), (1307, .iload 4, 1309, 0), (1309, .iconst 2, 1310, 0), (1310, .iadd, 1311, 0), (1311, .iaload, 1312, 0), (1312, .i2l, 1313, 0), (1313, .bipush 32, 1315, 0), (1315, .lshl, 1316, 0), (1316, .aload_n 0, 1317, 0), (1317, .iload 4, 1319, 0), (1319, .iconst 3, 1320, 0), (1320, .iadd, 1321, 0), (1321, .iaload, 1322, 0), (1322, .i2l, 1323, 0), (1323, .ldc2_w 77, 1326, 0), (1326, .land, 1327, 0), (1327, .lor, 1328, 0), (1328, .aload_n 0, 1329, 0), (1329, .iload 4, 1331, 0), (1331, .iconst 4, 1332, 0), (1332, .iadd, 1333, 0), (1333, .iaload, 1334, 0), (1334, .i2l, 1335, 0), (1335, .bipush 32, 1337, 0), (1337, .lshl, 1338, 0), (1338, .aload_n 0, 1339, 0), (1339, .iload 4, 1341, 0)]
def tb_La_law_30 : List (Nat × Instr × Nat × Nat) := [(1341, .iconst 5, 1342, 0), (1342, .iadd, 1343, 0), (1343, .iaload, 1344, 0), (1344, .i2l, 1345, 0), (1345, .ldc2_w 77, 1348, 0), (1348, .land, 1349, 0), (1349, .lor, 1350, 0), (1350, .aload_n 3, 1351, 0), (1351, .invokestatic 127, 1354, 0), (1354, .istore 5, 1356, 0), (1356, .aload_n 2, 1357, 0), (1357, .aload_n 0, 1358, 0), (1358, .iload 4, 1360, 0), (1360, .iconst 1, 1361, 0), (1361, .iadd, 1362, 0), (1362, .iaload, 1363, 0), (1363, .aload_n 0, 1364, 0), (1364, .iload 4, 1366, 0), (1366, .iconst 2, 1367, 0), (1367, .iadd, 1368, 0), (1368, .iaload, 1369, 0), (1369, .i2l, 1370, 0), (1370, .bipush 32, 1372, 0), (1372, .lshl, 1373, 0), (1373, .aload_n 0, 1374, 0), (1374, .iload 4, 1376, 0), (1376, .iconst 3, 1377, 0), (1377, .iadd, 1378, 0), (1378, .iaload, 1379, 0), (1379, .i2l, 1380, 0)]
def tb_La_law_31 : List (Nat × Instr × Nat × Nat) := [(1380, .ldc2_w 77, 1383, 0), (1383, .land, 1384, 0), (1384, .lor, 1385, 0), (1385, .aload_n 0, 1386, 0), (1386, .iload 4, 1388, 0), (1388, .iconst 4, 1389, 0), (1389, .iadd, 1390, 0), (1390, .iaload, 1391, 0), (1391, .i2l, 1392, 0), (1392, .bipush 32, 1394, 0), (1394, .lshl, 1395, 0), (1395, .aload_n 0, 1396, 0), (1396, .iload 4, 1398, 0), (1398, .iconst 5, 1399, 0), (1399, .iadd, 1400, 0), (1400, .iaload, 1401, 0), (1401, .i2l, 1402, 0), (1402, .ldc2_w 77, 1405, 0), (1405, .land, 1406, 0), (1406, .lor, 1407, 0), (1407, .invokevirtual 129, 1410, 0), (1410, .istore 6, 1412, 0), (1412, .aload_n 2, 1413, 0), (1413, .invokevirtual 85, 1416, 0), (1416, .iload 5, 1418, 0), (1418, .if_icmp .eq 5, 1421, 1423), (1421, .iconst 0, 1422, 0), (1422, .ireturn, 1423, 0), (1423, .iload 5, 1425, 0), (1425, .ifCond .ne 15, 1428, 1440)]
def tb_La_law_32 : List (Nat × Instr × Nat × Nat) := [(1428, .aload_n 3, 1429, 0), (1429, .iconst 0, 1430, 0), (1430, .laload, 1431, 0), (1431, .iload 6, 1433, 0), (1433, .i2l, 1434, 0), (1434, .lcmp, 1435, 0), (1435, .ifCond .eq 5, 1438, 1440), (1438, .iconst 0, 1439, 0), (1439, .ireturn, 1440, 0), (1440, .goto 82, 1443, 1522), (1443, .aload_n 1, 1444, 0), (1444, .aload_n 0, 1445, 0), (1445, .iload 4, 1447, 0), (1447, .iconst 1, 1448, 0), (1448, .iadd, 1449, 0), (1449, .iaload, 1450, 0), (1450, .aload_n 0, 1451, 0), (1451, .iload 4, 1453, 0), (1453, .iconst 2, 1454, 0), (1454, .iadd, 1455, 0), (1455, .iaload, 1456, 0), (1456, .aload_n 3, 1457, 0), (1457, .invokestatic 130, 1460, 0), (1460, .istore 5, 1462, 0), (1462, .aload_n 2, 1463, 0), (1463, .aload_n 0, 1464, 0), (1464, .iload 4, 1466, 0), (1466, .iconst 1, 1467, 0), (1467, .iadd, 1468, 0), (1468, .iaload, 1469, 0)]
def tb_La_law_33 : List (Nat × Instr × Nat × Nat) := [(1469, .aload_n 0, 1470, 0), (1470, .iload 4, 1472, 0), (1472, .iconst 2, 1473, 0), (1473, .iadd, 1474, 0), (1474, .iaload, 1475, 0), (1475, .invokevirtual 132, 1478, 0), (1478, .istore 6, 1480, 0), (1480, .aload_n 2, 1481, 0), (1481, .invokevirtual 85, 1484, 0), (1484, .iload 5, 1486, 0), (1486, .if_icmp .eq 5, 1489, 1491), (1489, .iconst 0, 1490, 0), (1490, .ireturn, 1491, 0), (1491, .iload 5, 1493, 0), (1493, .ifCond .ne 15, 1496, 1508), (1496, .aload_n 3, 1497, 0), (1497, .iconst 0, 1498, 0), (1498, .laload, 1499, 0), (1499, .iload 6, 1501, 0), (1501, .i2l, 1502, 0), (1502, .lcmp, 1503, 0), (1503, .ifCond .eq 5, 1506, 1508), (1506, .iconst 0, 1507, 0), (1507, .ireturn, 1508, 0), (1508, .goto 14, 1511, 1522), (1511, .aload_n 1, 1512, 0), (1512, .invokevirtual 133, 1515, 0), (1515, .aload_n 2, 1516, 0), (1516, .invokevirtual 136, 1519, 0), (1519, .goto 3, 1522, 1522)]
def tb_La_law_34 : List (Nat × Instr × Nat × Nat) := [(1522, .iinc 4 7, 1525, 0), (1525, .goto (-1502), 1528, 23), (1528, .iconst 1, 1529, 0), (1529, .ireturn, 1530, 0)]
def tb_La_law : List (Nat × Instr × Nat × Nat) := tb_La_law_1 ++ (tb_La_law_2 ++ (tb_La_law_3 ++ (tb_La_law_4 ++ (tb_La_law_5 ++ (tb_La_law_6 ++ (tb_La_law_7 ++ (tb_La_law_8 ++ (tb_La_law_9 ++ (tb_La_law_10 ++ (tb_La_law_11 ++ (tb_La_law_12 ++ (tb_La_law_13 ++ (tb_La_law_14 ++ (tb_La_law_15 ++ (tb_La_law_16 ++ (tb_La_law_17 ++ (tb_La_law_18 ++ (tb_La_law_19 ++ (tb_La_law_20 ++ (tb_La_law_21 ++ (tb_La_law_22 ++ (tb_La_law_23 ++ (tb_La_law_24 ++ (tb_La_law_25 ++ (tb_La_law_26 ++ (tb_La_law_27 ++ (tb_La_law_28 ++ (tb_La_law_29 ++ (tb_La_law_30 ++ (tb_La_law_31 ++ (tb_La_law_32 ++ (tb_La_law_33 ++ tb_La_law_34))))))))))))))))))))))))))))))))
def M_La_law : ax_M := (10, (some .boolean), tb_La_law, [], false)
def m_La_law : Nat := 125
def tb_Ar_fill : List (Nat × Instr × Nat × Nat) := [(0, .iconst 0, 1, 0), (1, .istore_n 2, 2, 0), (2, .aload_n 0, 3, 0), (3, .arraylength, 4, 0), (4, .istore_n 3, 5, 0), (5, .iload_n 2, 6, 0), (6, .iload_n 3, 7, 0), (7, .if_icmp .ge 13, 10, 20), (10, .aload_n 0, 11, 0), (11, .iload_n 2, 12, 0), (12, .iload_n 1, 13, 0), (13, .iastore, 14, 0), (14, .iinc 2 1, 17, 0), (17, .goto (-12), 20, 5), (20, .return_, 21, 0)]
def M_Ar_fill : ax_M := (11, none, tb_Ar_fill, [], false)
def m_Ar_fill : Nat := 126
def tb_Ma_maxI : List (Nat × Instr × Nat × Nat) := [(0, .iload_n 0, 1, 0), (1, .iload_n 1, 2, 0), (2, .if_icmp .lt 7, 5, 9), (5, .iload_n 0, 6, 0), (6, .goto 4, 9, 10), (9, .iload_n 1, 10, 0), (10, .ireturn, 11, 0)]
def M_Ma_maxI : ax_M := (12, (some .int), tb_Ma_maxI, [], false)
def m_Ma_maxI : Nat := 127
def tb_Ma_maxL : List (Nat × Instr × Nat × Nat) := [(0, .lload_n 0, 1, 0), (1, .lload_n 2, 2, 0), (2, .lcmp, 3, 0), (3, .ifCond .lt 7, 6, 10), (6, .lload_n 0, 7, 0), (7, .goto 4, 10, 11), (10, .lload_n 2, 11, 0), (11, .lreturn, 12, 0)]
def M_Ma_maxL : ax_M := (12, (some .long), tb_Ma_maxL, [], false)
def m_Ma_maxL : Nat := 128
def tb_Ma_absL : List (Nat × Instr × Nat × Nat) := [(0, .lload_n 0, 1, 0), (1, .lconst 0, 2, 0), (2, .lcmp, 3, 0), (3, .ifCond .ge 8, 6, 11), (6, .lload_n 0, 7, 0), (7, .lneg, 8, 0), (8, .goto 4, 11, 12), (11, .lload_n 0, 12, 0), (12, .lreturn, 13, 0)]
def M_Ma_absL : ax_M := (12, (some .long), tb_Ma_absL, [], false)
def m_Ma_absL : Nat := 129
def ax_pr : List ax_M := [M_ML_init, M_ML_unit, M_ML_maker, M_ML_thing, M_ML_at, M_ML_run, M_ML_remark, M_ML_least, M_ML_price, M_ML_share, M_ML_balance, M_ML_quote, M_ML_copper, M_ML_best, M_ML_order, M_ML_history, M_ML_clear, M_ML_keepOffer, M_ML_offerOf, M_ML_gradeOf, M_ML_checkQuantity, M_ML_isNoLayer, M_ML_commonDivisor, M_Bd_init, M_Bd_add, M_Bd_hasNo, M_Bd_move, M_Bd_excess, M_Bd_isMadeBy, M_Bd_part, M_Bd_forget, M_Ce_init, M_Ce_isNoCell, M_Ce_tell, M_Ce_aboveMean, M_Ce_units, M_Ce_forget, M_Gr_init, M_Gr_setLimit, M_Gr_addStep, M_Gr_setDays, M_Gr_excess, M_Gr_priceOf, M_Of_init, M_Of_add, M_Of_gradeAt, M_Of_leastFor, M_Or_init, M_Or_add, M_Or_hasNo, M_Or_part, M_Or_forget, M_Qu_init, M_Qu_add, M_Qu_latest, M_Qu_offerAt, M_Qu_forget, M_Re_init, M_Re_collect, M_Re_thingOf, M_Re_excessOf, M_Re_forget, M_Tx_init, M_Tx_add, M_Tx_forget, M_Tx_place, M_Tx_readNumber, M_Tx_readOffer, M_Tx_readGrade, M_Tx_readLimits, M_Tx_readSteps, M_Tx_readDays, M_Tx_readWhole, M_Tx_passes, M_Tx_next, M_Tx_isDigit, M_Mo_init, M_Mo_empty, M_Mo_thrown, M_Mo_clear, M_Mo_unit, M_Mo_now, M_Mo_expect, M_Mo_isDigit, M_Mo_whole, M_Mo_place, M_Mo_readClass, M_Mo_copyClasses, M_Mo_maker, M_Mo_isLayer, M_Mo_thing, M_Mo_isPlace, M_Mo_at, M_Mo_beyond, M_Mo_makes, M_Mo_leastOf, M_Mo_isMaker, M_Mo_isClass, M_Mo_run, M_Mo_remark, M_Mo_least, M_Mo_isQuantity, M_Mo_priceOf, M_Mo_price, M_Mo_share, M_Mo_best, M_Mo_isCell, M_Mo_copper, M_Mo_balance, M_Mo_quote, M_Mo_order, M_Mo_history, M_La_thing, M_La_at, M_La_run, M_La_remark, M_La_least, M_La_price, M_La_share, M_La_balance, M_La_quote, M_La_copper, M_La_best, M_La_order, M_La_history, M_La_law, M_Ar_fill, M_Ma_maxI, M_Ma_maxL, M_Ma_absL]
def ax_mm : List (MethodName × ByteArray × Nat × Nat × Nat) := [(⟨"MakingLimits", "<init>", "()V"⟩, prog_1_method_1_code, 1, 2, 43), (⟨"MakingLimits", "unit", "(I)Z"⟩, prog_1_method_2_code, 2, 1, 21), (⟨"MakingLimits", "maker", "()I"⟩, prog_1_method_3_code, 4, 5, 112), (⟨"MakingLimits", "thing", "(IJI)I"⟩, prog_1_method_4_code, 5, 6, 82), (⟨"MakingLimits", "at", "(IJJ)Z"⟩, prog_1_method_5_code, 6, 6, 82), (⟨"MakingLimits", "run", "(II)I"⟩, prog_1_method_6_code, 3, 8, 127), (⟨"MakingLimits", "remark", "(II)I"⟩, prog_1_method_7_code, 4, 6, 82), (⟨"MakingLimits", "least", "(I)I"⟩, prog_1_method_8_code, 2, 7, 104), (⟨"MakingLimits", "price", "(IIJ)J"⟩, prog_1_method_9_code, 6, 8, 127), (⟨"MakingLimits", "share", "(JJI)J"⟩, prog_1_method_10_code, 8, 6, 82), (⟨"MakingLimits", "balance", "(III)J"⟩, prog_1_method_11_code, 8, 6, 82), (⟨"MakingLimits", "quote", "(IJ)I"⟩, prog_1_method_12_code, 4, 7, 104), (⟨"MakingLimits", "copper", "(IIJJ)Z"⟩, prog_1_method_13_code, 7, 6, 82), (⟨"MakingLimits", "best", "(J)I"⟩, prog_1_method_14_code, 9, 7, 103), (⟨"MakingLimits", "order", "(IJJ)I"⟩, prog_1_method_15_code, 12, 7, 104), (⟨"MakingLimits", "history", "(II)I"⟩, prog_1_method_16_code, 3, 6, 82), (⟨"MakingLimits", "clear", "()V"⟩, prog_1_method_17_code, 2, 2, 43), (⟨"MakingLimits", "keepOffer", "(ILMakingLimits$Offer;)V"⟩, prog_1_method_18_code, 3, 1, 21), (⟨"MakingLimits", "offerOf", "(I)LMakingLimits$Offer;"⟩, prog_1_method_19_code, 3, 6, 82), (⟨"MakingLimits", "gradeOf", "(II)LMakingLimits$Grade;"⟩, prog_1_method_20_code, 4, 7, 104), (⟨"MakingLimits", "checkQuantity", "(J)V"⟩, prog_1_method_21_code, 2, 6, 82), (⟨"MakingLimits", "isNoLayer", "(I)Z"⟩, prog_1_method_22_code, 1, 0, 0), (⟨"MakingLimits", "commonDivisor", "(JJ)J"⟩, prog_1_method_23_code, 11, 1, 23), (⟨"MakingLimits$Board", "<init>", "()V"⟩, prog_2_method_1_code, 1, 1, 20), (⟨"MakingLimits$Board", "add", "(III)I"⟩, prog_2_method_2_code, 4, 0, 0), (⟨"MakingLimits$Board", "hasNo", "(I)Z"⟩, prog_2_method_3_code, 2, 0, 0), (⟨"MakingLimits$Board", "move", "(III)Z"⟩, prog_2_method_4_code, 5, 1, 21), (⟨"MakingLimits$Board", "excess", "(ILMakingLimits$Grade;)I"⟩, prog_2_method_5_code, 3, 1, 23), (⟨"MakingLimits$Board", "isMadeBy", "(LMakingLimits$Grade;)Z"⟩, prog_2_method_6_code, 3, 2, 45), (⟨"MakingLimits$Board", "part", "(II)I"⟩, prog_2_method_7_code, 3, 1, 21), (⟨"MakingLimits$Board", "forget", "()V"⟩, prog_2_method_8_code, 1, 0, 0), (⟨"MakingLimits$Cells", "<init>", "()V"⟩, prog_3_method_1_code, 1, 1, 23), (⟨"MakingLimits$Cells", "isNoCell", "(I)Z"⟩, prog_3_method_2_code, 1, 0, 0), (⟨"MakingLimits$Cells", "tell", "(IIII)Z"⟩, prog_3_method_3_code, 7, 1, 20), (⟨"MakingLimits$Cells", "aboveMean", "(II)J"⟩, prog_3_method_4_code, 6, 2, 44), (⟨"MakingLimits$Cells", "units", "(II)J"⟩, prog_3_method_5_code, 5, 1, 20), (⟨"MakingLimits$Cells", "forget", "()V"⟩, prog_3_method_6_code, 1, 1, 23), (⟨"MakingLimits$Grade", "<init>", "()V"⟩, prog_4_method_1_code, 1, 1, 20), (⟨"MakingLimits$Grade", "setLimit", "(II)V"⟩, prog_4_method_2_code, 3, 0, 0), (⟨"MakingLimits$Grade", "addStep", "(II)V"⟩, prog_4_method_3_code, 4, 0, 0), (⟨"MakingLimits$Grade", "setDays", "(I)V"⟩, prog_4_method_4_code, 2, 0, 0), (⟨"MakingLimits$Grade", "excess", "(II)I"⟩, prog_4_method_5_code, 4, 0, 0), (⟨"MakingLimits$Grade", "priceOf", "(J)J"⟩, prog_4_method_6_code, 8, 1, 23), (⟨"MakingLimits$Offer", "<init>", "()V"⟩, prog_5_method_1_code, 1, 1, 20), (⟨"MakingLimits$Offer", "add", "(LMakingLimits$Grade;)Z"⟩, prog_5_method_2_code, 2, 0, 0), (⟨"MakingLimits$Offer", "gradeAt", "(I)LMakingLimits$Grade;"⟩, prog_5_method_3_code, 2, 0, 0), (⟨"MakingLimits$Offer", "leastFor", "(LMakingLimits$Board;)I"⟩, prog_5_method_4_code, 4, 3, 67), (⟨"MakingLimits$Orders", "<init>", "()V"⟩, prog_6_method_1_code, 1, 1, 20), (⟨"MakingLimits$Orders", "add", "(IIIIJI)I"⟩, prog_6_method_2_code, 9, 0, 0), (⟨"MakingLimits$Orders", "hasNo", "(I)Z"⟩, prog_6_method_3_code, 2, 0, 0), (⟨"MakingLimits$Orders", "part", "(II)I"⟩, prog_6_method_4_code, 3, 1, 21), (⟨"MakingLimits$Orders", "forget", "()V"⟩, prog_6_method_5_code, 1, 0, 0), (⟨"MakingLimits$Quotes", "<init>", "()V"⟩, prog_7_method_1_code, 1, 1, 20), (⟨"MakingLimits$Quotes", "add", "(ILMakingLimits$Offer;J)I"⟩, prog_7_method_2_code, 5, 0, 0), (⟨"MakingLimits$Quotes", "latest", "(IJ)I"⟩, prog_7_method_3_code, 5, 0, 0), (⟨"MakingLimits$Quotes", "offerAt", "(I)LMakingLimits$Offer;"⟩, prog_7_method_4_code, 2, 0, 0), (⟨"MakingLimits$Quotes", "forget", "()V"⟩, prog_7_method_5_code, 1, 0, 0), (⟨"MakingLimits$Remarks", "<init>", "()V"⟩, prog_8_method_1_code, 1, 1, 20), (⟨"MakingLimits$Remarks", "collect", "(LMakingLimits$Board;LMakingLimits$Grade;)I"⟩, prog_8_method_2_code, 5, 2, 45), (⟨"MakingLimits$Remarks", "thingOf", "(I)I"⟩, prog_8_method_3_code, 2, 0, 0), (⟨"MakingLimits$Remarks", "excessOf", "(I)I"⟩, prog_8_method_4_code, 2, 0, 0), (⟨"MakingLimits$Remarks", "forget", "()V"⟩, prog_8_method_5_code, 1, 0, 0), (⟨"MakingLimits$Text", "<init>", "()V"⟩, prog_9_method_1_code, 1, 1, 20), (⟨"MakingLimits$Text", "add", "(I)Z"⟩, prog_9_method_2_code, 2, 0, 0), (⟨"MakingLimits$Text", "forget", "()V"⟩, prog_9_method_3_code, 1, 0, 0), (⟨"MakingLimits$Text", "place", "()I"⟩, prog_9_method_4_code, 1, 0, 0), (⟨"MakingLimits$Text", "readNumber", "(I)I"⟩, prog_9_method_5_code, 3, 2, 41), (⟨"MakingLimits$Text", "readOffer", "()LMakingLimits$Offer;"⟩, prog_9_method_6_code, 5, 4, 88), (⟨"MakingLimits$Text", "readGrade", "()LMakingLimits$Grade;"⟩, prog_9_method_7_code, 3, 3, 66), (⟨"MakingLimits$Text", "readLimits", "(LMakingLimits$Grade;)Z"⟩, prog_9_method_8_code, 4, 2, 42), (⟨"MakingLimits$Text", "readSteps", "(LMakingLimits$Grade;)Z"⟩, prog_9_method_9_code, 5, 2, 42), (⟨"MakingLimits$Text", "readDays", "(LMakingLimits$Grade;)Z"⟩, prog_9_method_10_code, 3, 2, 42), (⟨"MakingLimits$Text", "readWhole", "()I"⟩, prog_9_method_11_code, 3, 1, 20), (⟨"MakingLimits$Text", "passes", "(C)Z"⟩, prog_9_method_12_code, 2, 1, 20), (⟨"MakingLimits$Text", "next", "()I"⟩, prog_9_method_13_code, 1, 0, 0), (⟨"MakingLimits$Text", "isDigit", "(I)Z"⟩, prog_9_method_14_code, 1, 0, 0), (⟨"MakingLimitsModel", "<init>", "()V"⟩, prog_11_method_1_code, 1, 1, 21), (⟨"MakingLimitsModel", "empty", "()V"⟩, prog_11_method_2_code, 2, 0, 0), (⟨"MakingLimitsModel", "thrown", "()I"⟩, prog_11_method_3_code, 1, 0, 0), (⟨"MakingLimitsModel", "clear", "()V"⟩, prog_11_method_4_code, 1, 1, 21), (⟨"MakingLimitsModel", "unit", "(I)Z"⟩, prog_11_method_5_code, 2, 0, 0), (⟨"MakingLimitsModel", "now", "()I"⟩, prog_11_method_6_code, 1, 0, 0), (⟨"MakingLimitsModel", "expect", "(I)V"⟩, prog_11_method_7_code, 2, 1, 20), (⟨"MakingLimitsModel", "isDigit", "()Z"⟩, prog_11_method_8_code, 1, 1, 20), (⟨"MakingLimitsModel", "whole", "()J"⟩, prog_11_method_9_code, 4, 2, 40), (⟨"MakingLimitsModel", "place", "(II)I"⟩, prog_11_method_10_code, 2, 0, 0), (⟨"MakingLimitsModel", "readClass", "(I)V"⟩, prog_11_method_11_code, 13, 3, 63), (⟨"MakingLimitsModel", "copyClasses", "(II)V"⟩, prog_11_method_12_code, 4, 1, 21), (⟨"MakingLimitsModel", "maker", "()I"⟩, prog_11_method_13_code, 3, 4, 95), (⟨"MakingLimitsModel", "isLayer", "(I)Z"⟩, prog_11_method_14_code, 1, 0, 0), (⟨"MakingLimitsModel", "thing", "(IJI)I"⟩, prog_11_method_15_code, 6, 1, 20), (⟨"MakingLimitsModel", "isPlace", "(J)Z"⟩, prog_11_method_16_code, 2, 0, 0), (⟨"MakingLimitsModel", "at", "(IJJ)Z"⟩, prog_11_method_17_code, 6, 1, 21), (⟨"MakingLimitsModel", "beyond", "(III)J"⟩, prog_11_method_18_code, 6, 1, 21), (⟨"MakingLimitsModel", "makes", "(II)Z"⟩, prog_11_method_19_code, 5, 2, 46), (⟨"MakingLimitsModel", "leastOf", "(I)I"⟩, prog_11_method_20_code, 3, 3, 70), (⟨"MakingLimitsModel", "isMaker", "(I)Z"⟩, prog_11_method_21_code, 2, 0, 0), (⟨"MakingLimitsModel", "isClass", "(II)Z"⟩, prog_11_method_22_code, 3, 1, 21), (⟨"MakingLimitsModel", "run", "(II)I"⟩, prog_11_method_23_code, 4, 2, 46), (⟨"MakingLimitsModel", "remark", "(II)I"⟩, prog_11_method_24_code, 4, 0, 0), (⟨"MakingLimitsModel", "least", "(I)I"⟩, prog_11_method_25_code, 2, 4, 92), (⟨"MakingLimitsModel", "isQuantity", "(J)Z"⟩, prog_11_method_26_code, 2, 0, 0), (⟨"MakingLimitsModel", "priceOf", "(IIJ)J"⟩, prog_11_method_27_code, 8, 1, 21), (⟨"MakingLimitsModel", "price", "(IIJ)J"⟩, prog_11_method_28_code, 5, 2, 48), (⟨"MakingLimitsModel", "share", "(JJI)J"⟩, prog_11_method_29_code, 6, 1, 21), (⟨"MakingLimitsModel", "best", "(J)I"⟩, prog_11_method_30_code, 8, 4, 92), (⟨"MakingLimitsModel", "isCell", "(II)Z"⟩, prog_11_method_31_code, 2, 1, 20), (⟨"MakingLimitsModel", "copper", "(IIJJ)Z"⟩, prog_11_method_32_code, 10, 2, 41), (⟨"MakingLimitsModel", "balance", "(III)J"⟩, prog_11_method_33_code, 15, 2, 41), (⟨"MakingLimitsModel", "quote", "(IJ)I"⟩, prog_11_method_34_code, 4, 2, 44), (⟨"MakingLimitsModel", "order", "(IJJ)I"⟩, prog_11_method_35_code, 12, 4, 92), (⟨"MakingLimitsModel", "history", "(II)I"⟩, prog_11_method_36_code, 3, 0, 0), (⟨"MakingLimitsLaw", "thing", "(LMakingLimits;IJI[J)I"⟩, method_3_code, 7, 7, 106), (⟨"MakingLimitsLaw", "at", "(LMakingLimits;IJJ[J)I"⟩, method_4_code, 8, 7, 107), (⟨"MakingLimitsLaw", "run", "(LMakingLimits;II[J)I"⟩, method_5_code, 5, 9, 149), (⟨"MakingLimitsLaw", "remark", "(LMakingLimits;II[J)I"⟩, method_6_code, 5, 7, 105), (⟨"MakingLimitsLaw", "least", "(LMakingLimits;I[J)I"⟩, method_7_code, 4, 8, 125), (⟨"MakingLimitsLaw", "price", "(LMakingLimits;IIJ[J)I"⟩, method_8_code, 7, 9, 152), (⟨"MakingLimitsLaw", "share", "(LMakingLimits;JJI[J)I"⟩, method_9_code, 8, 7, 109), (⟨"MakingLimitsLaw", "balance", "(LMakingLimits;III[J)I"⟩, method_10_code, 6, 7, 109), (⟨"MakingLimitsLaw", "quote", "(LMakingLimits;IJ[J)I"⟩, method_11_code, 6, 8, 127), (⟨"MakingLimitsLaw", "copper", "(LMakingLimits;IIJJ[J)I"⟩, method_12_code, 9, 7, 108), (⟨"MakingLimitsLaw", "best", "(LMakingLimits;J[J)I"⟩, method_13_code, 5, 8, 131), (⟨"MakingLimitsLaw", "order", "(LMakingLimits;IJJ[J)I"⟩, method_14_code, 8, 8, 135), (⟨"MakingLimitsLaw", "history", "(LMakingLimits;II[J)I"⟩, method_15_code, 5, 7, 104), (⟨"MakingLimitsLaw", "law", "([I)Z"⟩, code, 8, 10, 178), (⟨"java/util/Arrays", "fill", "([II)V"⟩, prog_19_method_103_code, 4, 0, 0), (⟨"java/lang/Math", "max", "(II)I"⟩, prog_15_method_65_code, 2, 0, 0), (⟨"java/lang/Math", "max", "(JJ)J"⟩, prog_15_method_66_code, 4, 0, 0), (⟨"java/lang/Math", "abs", "(J)J"⟩, prog_15_method_61_code, 2, 0, 0)]
/-- a method's class, for its receiver -/
def ax_rc (mi : Nat) : Nat := match ax_pr[mi]? with
  | some M => M.1
  | none => 0
def ax_nl (mi : Nat) : Nat := match ax_mm[mi]? with
  | some q => q.2.2.1
  | none => 0
end
section
def ax_sto1 (i : Nat) (v : Value) (lv : ax_L) : ax_L := (i, v) :: lv.filter (fun q => !(q.1 == i) && !(q.1 + 1 == i && q.2.category == 2))
def ax_sto2 (i : Nat) (v : Value) (lv : ax_L) : ax_L := (i, v) :: lv.filter (fun q => !(q.1 == i) && (!(q.1 == i + 1) && !(q.1 + 1 == i && q.2.category == 2)))
def ax_isI : Value → Bool
  | .int _ => true
  | _ => false
def ax_isL : Value → Bool
  | .long _ => true
  | _ => false
def ax_isA : Value → Bool
  | .ref _ => true
  | .null => true
  | _ => false
abbrev ax_S : Type := Nat × ax_L × List Value × ax_H
def ax_load (ok : Value → Bool) (k nx : Nat) (lv : ax_L) (st : List Value) (h : ax_H) : Option ax_S := match lv.lookup k with
  | some v => if ok v = true then some (nx, lv, v :: st, h) else none
  | none => none
def ax_store1 (ok : Value → Bool) (k nx : Nat) (lv : ax_L) (st : List Value) (h : ax_H) : Option ax_S := match st with
  | v :: st => if ok v = true then some (nx, ax_sto1 k v lv, st, h) else none
  | _ => none
def ax_store2 (k nx : Nat) (lv : ax_L) (st : List Value) (h : ax_H) : Option ax_S := match st with
  | .long x :: st => some (nx, ax_sto2 k (.long x) lv, st, h)
  | _ => none
def ax_iinc (k : Nat) (n : Int) (nx : Nat) (lv : ax_L) (st : List Value) (h : ax_H) : Option ax_S := match lv.lookup k with
  | some (.int x) => some (nx, ax_sto1 k (.int (x + Int32.ofInt n)) lv, st, h)
  | _ => none
def ax_ii (f : Int32 → Int32 → Int32) (nx : Nat) (lv : ax_L) (st : List Value) (h : ax_H) : Option ax_S := match st with
  | .int y :: .int x :: st => some (nx, lv, .int (f x y) :: st, h)
  | _ => none
def ax_ll (f : Int64 → Int64 → Value) (nx : Nat) (lv : ax_L) (st : List Value) (h : ax_H) : Option ax_S := match st with
  | .long y :: .long x :: st => some (nx, lv, f x y :: st, h)
  | _ => none
def ax_lshl (nx : Nat) (lv : ax_L) (st : List Value) (h : ax_H) : Option ax_S := match st with
  | .int y :: .long x :: st => some (nx, lv, .long (x <<< (y.toInt64 &&& 63)) :: st, h)
  | _ => none
def ax_i1 (f : Int32 → Value) (nx : Nat) (lv : ax_L) (st : List Value) (h : ax_H) : Option ax_S := match st with
  | .int x :: st => some (nx, lv, f x :: st, h)
  | _ => none
def ax_l1 (f : Int64 → Value) (nx : Nat) (lv : ax_L) (st : List Value) (h : ax_H) : Option ax_S := match st with
  | .long x :: st => some (nx, lv, f x :: st, h)
  | _ => none
def ax_dup (nx : Nat) (lv : ax_L) (st : List Value) (h : ax_H) : Option ax_S := match st with
  | v :: st => if v.category = 1 then some (nx, lv, v :: v :: st, h) else none
  | _ => none
/-- an instruction that asks nothing of the cells, and goes one way -/
def ax_s (i : Instr) (nx tg : Nat) (lv : ax_L) (st : List Value) (h : ax_H) : Option ax_S := match i with
  | .aconst_null => some (nx, lv, .null :: st, h)
  | .iconst n => some (nx, lv, .int (Int32.ofInt n) :: st, h)
  | .bipush n => some (nx, lv, .int (Int8.ofInt n).toInt32 :: st, h)
  | .sipush n => some (nx, lv, .int (Int16.ofInt n).toInt32 :: st, h)
  | .lconst n => some (nx, lv, .long (Int64.ofNat (n : Nat)) :: st, h)
  | .iload k => ax_load ax_isI k nx lv st h
  | .iload_n k => ax_load ax_isI k nx lv st h
  | .lload k => ax_load ax_isL k nx lv st h
  | .lload_n k => ax_load ax_isL k nx lv st h
  | .aload k => ax_load ax_isA k nx lv st h
  | .aload_n k => ax_load ax_isA k nx lv st h
  | .istore k => ax_store1 ax_isI k nx lv st h
  | .istore_n k => ax_store1 ax_isI k nx lv st h
  | .astore k => ax_store1 ax_isA k nx lv st h
  | .astore_n k => ax_store1 ax_isA k nx lv st h
  | .lstore k => ax_store2 k nx lv st h
  | .lstore_n k => ax_store2 k nx lv st h
  | .iinc k n => ax_iinc k n nx lv st h
  | .iadd => ax_ii (fun x y => x + y) nx lv st h
  | .isub => ax_ii (fun x y => x - y) nx lv st h
  | .imul => ax_ii (fun x y => x * y) nx lv st h
  | .iand => ax_ii (fun x y => x &&& y) nx lv st h
  | .ladd => ax_ll (fun x y => .long (x + y)) nx lv st h
  | .lsub => ax_ll (fun x y => .long (x - y)) nx lv st h
  | .lmul => ax_ll (fun x y => .long (x * y)) nx lv st h
  | .land => ax_ll (fun x y => .long (x &&& y)) nx lv st h
  | .lor => ax_ll (fun x y => .long (x ||| y)) nx lv st h
  | .lcmp => ax_ll (fun x y => .int (lg_cmp x y)) nx lv st h
  | .lshl => ax_lshl nx lv st h
  | .i2l => ax_i1 (fun x => .long x.toInt64) nx lv st h
  | .i2c => ax_i1 (fun x => .int (x.toUInt32 % 65536).toInt32) nx lv st h
  | .ineg => ax_i1 (fun x => .int (-x)) nx lv st h
  | .lneg => ax_l1 (fun x => .long (-x)) nx lv st h
  | .l2i => ax_l1 (fun x => .int x.toInt32) nx lv st h
  | .dup => ax_dup nx lv st h
  | .goto _ => some (tg, lv, st, h)
  | _ => none
def ax_cnd (c : ClassFile.Cond) (x y : Int32) : Prop := match c with
  | .eq => x = y
  | .ne => ¬ x = y
  | .lt => x < y
  | .ge => y ≤ x
  | .gt => y < x
  | .le => x ≤ y
def ax_to (pc : Nat) (off : Int) : Nat := ((pc : Int) + off).toNat
def ax_key (M : ax_M) (ix : Nat) : Nat × Nat := (M.1, ix)
/-- where a switch goes -/
def ax_tsw (pc : Nat) (d lo hi : Int) (offs : Array Int) (x : Int32) : Option Nat :=
  if x.toInt < lo ∨ hi < x.toInt then some (ax_to pc d) else (offs[(x.toInt - lo).toNat]?).map (ax_to pc)
/-- which handler (from, to, handler, place of the class caught in the pool) of a method of class own takes a throw of E at pc -/
def ax_hand (own : Nat) : List (Nat × Nat × Nat × Nat) → Nat → Nat → Option Nat
  | [], _, _ => none
  | (a, b, t, k) :: l, pc, E => if a ≤ pc ∧ pc < b ∧ ax_tC.lookup (own, k) = some E then some t else ax_hand own l pc E
def ax_wsum (st : List Value) : Nat := (st.map fun v => v.category).sum
/-- a new array's contents, by its kind: 0 int, 1 long, 2 char, 3 and 4 references -/
def ax_blank (k : Nat) : (Nat → Int32) ⊕ (Nat → Int64) ⊕ (Nat → UInt32) ⊕ (Nat → UInt64) ⊕ (Nat → Option Nat) :=
  if k = 1 then .inr (.inl (fun _ => 0)) else if 3 ≤ k then .inr (.inr (.inr (.inr (fun _ => none)))) else .inl (fun _ => 0)
/-- the rest of a call, where the callee's run is known -/
def ax_call (C : Nat → List Value → ax_H → ax_R → Prop) (M : ax_M) (ix pc nx : Nat) (lv : ax_L) (st : List Value) (h : ax_H) (r : ax_R) (K : Nat → ax_L → List Value → ax_H → Prop) : Prop :=
  ∃ mi n, ax_tM.lookup (ax_key M ix) = some (mi, n) ∧ n ≤ st.length ∧ ax_wsum (st.drop n) ≤ 8 ∧
    ((∃ v h1, C mi (st.take n).reverse h (.inl v, h1) ∧ K nx lv (v.toList ++ st.drop n) h1) ∨
     (∃ E h1, C mi (st.take n).reverse h (.inr E, h1) ∧ E < 2 ∧
       ((∃ t, ax_hand M.1 M.2.2.2.1 pc E = some t ∧ K t lv [.ref (h1.1.length - 1)] h1) ∨ (ax_hand M.1 M.2.2.2.1 pc E = none ∧ r = (.inr E, h1)))))
/-- the object that is called is one of the method's class -/
def ax_recv (M : ax_M) (ix : Nat) (st : List Value) (h : ax_H) : Prop := ∃ mi n a as fs, ax_tM.lookup (ax_key M ix) = some (mi, n) ∧ (st.take n).reverse = .ref a :: as ∧ h.1[a]? = some (some (.inr (ax_rc mi, fs)))
/-- something is made there -/
def ax_mk (M : ax_M) (ix : Nat) (st : List Value) : Prop := ∃ mi n a as, ax_tM.lookup (ax_key M ix) = some (mi, n) ∧ (st.take n).reverse = .ref a :: as
/-- an instruction that looks into the cells, goes two ways, calls or ends -/
def ax_b (C : Nat → List Value → ax_H → ax_R → Prop) (M : ax_M) (i : Instr) (pc nx tg : Nat) (lv : ax_L) (st : List Value) (h : ax_H) (r : ax_R) (K : Nat → ax_L → List Value → ax_H → Prop) : Prop := match i with
  | .ldc ix => ∃ v, ax_tI.lookup (ax_key M ix) = some v ∧ K nx lv (.int v :: st) h
  | .ldc2_w ix => ∃ v, ax_tL.lookup (ax_key M ix) = some v ∧ K nx lv (.long v :: st) h
  | .idiv => ∃ x y st', st = .int y :: .int x :: st' ∧ ¬ y = 0 ∧ K nx lv (.int (x / y) :: st') h
  | .ldiv => ∃ x y st', st = .long y :: .long x :: st' ∧ ¬ y = 0 ∧ K nx lv (.long (x / y) :: st') h
  | .lrem => ∃ x y st', st = .long y :: .long x :: st' ∧ ¬ y = 0 ∧ K nx lv (.long (x - x / y * y) :: st') h
  | .if_icmp c _ => ∃ x y st', st = .int y :: .int x :: st' ∧ (ax_cnd c x y → K tg lv st' h) ∧ (¬ ax_cnd c x y → K nx lv st' h)
  | .ifCond c _ => ∃ x st', st = .int x :: st' ∧ (ax_cnd c x 0 → K tg lv st' h) ∧ (¬ ax_cnd c x 0 → K nx lv st' h)
  | .ifnull _ => ∃ v st', st = v :: st' ∧ ((v = .null ∧ K tg lv st' h) ∨ ((∃ a, v = .ref a) ∧ K nx lv st' h))
  | .ifnonnull _ => ∃ v st', st = v :: st' ∧ ((v = .null ∧ K nx lv st' h) ∨ ((∃ a, v = .ref a) ∧ K tg lv st' h))
  | .tableswitch d lo hi offs => ∃ x st' t, st = .int x :: st' ∧ ax_tsw pc d lo hi offs x = some t ∧ K t lv st' h
  | .lookupswitch d ps => ∃ x st', st = .int x :: st' ∧ K (ax_to pc (Op.lookupswitch.offset ps.toList d x.toInt)) lv st' h
  | .getfield ix => ∃ a st' ci k fs v, st = .ref a :: st' ∧ ax_tF.lookup (ax_key M ix) = some (ci, k) ∧ h.1[a]? = some (some (.inr (ci, fs))) ∧ fs[k]? = some v ∧ K nx lv (v :: st') h
  | .putfield ix => ∃ a v st' ci k fs, st = v :: .ref a :: st' ∧ ax_tF.lookup (ax_key M ix) = some (ci, k) ∧ h.1[a]? = some (some (.inr (ci, fs))) ∧ k < fs.length ∧ (ax_fin ci k = false ∨ (M.2.2.2.2 = true ∧ M.1 = ci)) ∧ narrow (ax_ty ci k) v = v ∧ fits (ax_ty ci k) v = true ∧
      K nx lv st' (h.1.set a (some (.inr (ci, fs.set k v))), h.2)
  | .iaload => ∃ a i st' k n f, st = .int i :: .ref a :: st' ∧ h.1[a]? = some (some (.inl (k, n, .inl f))) ∧ (k = 0 ∨ k = 9) ∧ vp_in i n ∧ K nx lv (.int (f i.toNatClampNeg) :: st') h
  | .caload => ∃ a i st' n f, st = .int i :: .ref a :: st' ∧ h.1[a]? = some (some (.inl (2, n, .inl f))) ∧ vp_in i n ∧ K nx lv (.int (f i.toNatClampNeg) :: st') h
  | .laload => ∃ a i st' n f, st = .int i :: .ref a :: st' ∧ h.1[a]? = some (some (.inl (1, n, .inr (.inl f)))) ∧ vp_in i n ∧ K nx lv (.long (f i.toNatClampNeg) :: st') h
  | .aaload => ∃ a i st' k n f, st = .int i :: .ref a :: st' ∧ h.1[a]? = some (some (.inl (k, n, .inr (.inr (.inr (.inr f)))))) ∧ (k = 3 ∨ k = 4) ∧ vp_in i n ∧ K nx lv (va_rf (f i.toNatClampNeg) :: st') h
  | .iastore => ∃ a i x st' n f, st = .int x :: .int i :: .ref a :: st' ∧ h.1[a]? = some (some (.inl (0, n, .inl f))) ∧ vp_in i n ∧ K nx lv st' (h.1.set a (some (.inl (0, n, .inl (upd f i.toNatClampNeg x)))), h.2)
  | .castore => ∃ a i x st' n f, st = .int x :: .int i :: .ref a :: st' ∧ h.1[a]? = some (some (.inl (2, n, .inl f))) ∧ vp_in i n ∧ K nx lv st' (h.1.set a (some (.inl (2, n, .inl (upd f i.toNatClampNeg (vp_nar .char x))))), h.2)
  | .lastore => ∃ a i x st' n f, st = .long x :: .int i :: .ref a :: st' ∧ h.1[a]? = some (some (.inl (1, n, .inr (.inl f)))) ∧ vp_in i n ∧ K nx lv st' (h.1.set a (some (.inl (1, n, .inr (.inl (vp_updL f i.toNatClampNeg x))))), h.2)
  | .aastore => ∃ a i o st' k n f, st = va_rf o :: .int i :: .ref a :: st' ∧ h.1[a]? = some (some (.inl (k, n, .inr (.inr (.inr (.inr f)))))) ∧ (k = 3 ∨ k = 4) ∧ vp_in i n ∧ (∀ v, o = some v → ∃ fs, h.1[v]? = some (some (.inr (ax_cmp k, fs)))) ∧
      K nx lv st' (h.1.set a (some (.inl (k, n, .inr (.inr (.inr (.inr (va_up f i.toNatClampNeg o))))))), h.2)
  | .arraylength => ∃ a st' k n z, st = .ref a :: st' ∧ h.1[a]? = some (some (.inl (k, n, z))) ∧ (k < 5 ∨ (k = 9 ∧ a = 0)) ∧ K nx lv (.int (nI n) :: st') h
  | .newarray t => ∃ n st' k, st = .int n :: st' ∧ ax_ak t = some k ∧ ¬ n < 0 ∧ n.toNatClampNeg ≤ 1000000 ∧ K nx lv (.ref h.1.length :: st') (h.1 ++ [some (.inl (k, n.toNatClampNeg, ax_blank k))], h.2 + n.toNatClampNeg)
  | .anewarray ix => ∃ n st' k, st = .int n :: st' ∧ ax_tR.lookup (ax_key M ix) = some k ∧ ¬ n < 0 ∧ n.toNatClampNeg ≤ 1000000 ∧ K nx lv (.ref h.1.length :: st') (h.1 ++ [some (.inl (k, n.toNatClampNeg, ax_blank k))], h.2 + n.toNatClampNeg)
  | .new ix => (∃ ci, ax_tN.lookup (ax_key M ix) = some ci ∧ K nx lv (.ref h.1.length :: st) (h.1 ++ [some (.inr (ci, ax_dfl ci))], h.2 + (ax_dfl ci).length)) ∨
      (∃ E ik is, ax_tX.lookup (ax_key M ix) = some (E, ik) ∧ st = [] ∧ M.2.2.2.1 = [] ∧ M.2.2.1.lookup nx = some (.dup, nx + 1, 0) ∧ M.2.2.1.lookup (nx + 1) = some (.ldc is, nx + 3, 0) ∧ ax_key M is ∈ ax_tS ∧ M.2.2.1.lookup (nx + 3) = some (.invokespecial ik, nx + 6, 0) ∧ M.2.2.1.lookup (nx + 6) = some (.athrow, nx + 7, 0) ∧ r = (.inr E, (h.1 ++ [none], h.2 + 6)))
  | .invokestatic ix => ax_call C M ix pc nx lv st h r K
  | .invokevirtual ix => ax_recv M ix st h ∧ ax_call C M ix pc nx lv st h r K
  | .invokespecial ix => (ax_key M ix ∈ ax_tO ∧ (∃ a st', st = .ref a :: st' ∧ ax_wsum st' ≤ 8 ∧ K nx lv st' h)) ∨ (ax_mk M ix st ∧ ax_call C M ix pc nx lv st h r K)
  | .ireturn => ∃ x rt, st = [.int x] ∧ M.2.1 = some rt ∧ narrow rt (.int x) = .int x ∧ r = (.inl (some (.int x)), h)
  | .lreturn => ∃ x, st = [.long x] ∧ M.2.1 = some .long ∧ r = (.inl (some (.long x)), h)
  | .areturn => ∃ v n, st = [v] ∧ M.2.1 = some (.object n) ∧ ax_isA v = true ∧ r = (.inl (some v), h)
  | .return_ => st = [] ∧ M.2.1 = none ∧ r = (.inl none, h)
  | _ => False
/-- one instruction: what K must say of the next places for the method to go on and end as r says -/
def ax_step (C : Nat → List Value → ax_H → ax_R → Prop) (M : ax_M) (pc : Nat) (lv : ax_L) (st : List Value) (h : ax_H) (r : ax_R) (K : Nat → ax_L → List Value → ax_H → Prop) : Prop :=
  ∃ i nx tg, M.2.2.1.lookup pc = some (i, nx, tg) ∧ ((∃ s : ax_S, ax_s i nx tg lv st h = some s ∧ K s.1 s.2.1 s.2.2.1 s.2.2.2) ∨ ax_b C M i pc nx tg lv st h r K)
/-- from here the method ends as r says: the least such relation -/
def ax_go (C : Nat → List Value → ax_H → ax_R → Prop) (M : ax_M) (r : ax_R) (pc : Nat) (lv : ax_L) (st : List Value) (h : ax_H) : Prop :=
  ∀ P : Nat → ax_L → List Value → ax_H → Prop, (∀ pc lv st h, ax_step C M pc lv st h r P → P pc lv st h) → P pc lv st h
/-- method number mi, called with these values over these cells, ends as r says -/
def ax_run (mi : Nat) (as : List Value) (h : ax_H) (r : ax_R) : Prop :=
  ∀ P : Nat → List Value → ax_H → ax_R → Prop, (∀ mi as h r, (∃ M, ax_pr[mi]? = some M ∧ ax_wsum as ≤ ax_nl mi ∧ ax_go P M r 0 (lv_args 0 as) [] h) → P mi as h r) → P mi as h r
end
section
section AxMono
variable {C C' : Nat → List Value → ax_H → ax_R → Prop} {M : ax_M} {r : ax_R} {K K' : Nat → ax_L → List Value → ax_H → Prop}
theorem ax_call_mono (hC : ∀ mi as h r, C mi as h r → C' mi as h r) (hK : ∀ pc lv st h, K pc lv st h → K' pc lv st h) {ix pc nx : Nat} {lv : ax_L} {st : List Value} {h : ax_H} (hb : ax_call C M ix pc nx lv st h r K) : ax_call C' M ix pc nx lv st h r K' := by
  obtain ⟨mi, n, h1, h2, h3, h4⟩ := hb
  refine ⟨mi, n, h1, h2, h3, ?_⟩
  rcases h4 with ⟨v, g, c, k⟩ | ⟨E, g, c, hE, k⟩
  · exact Or.inl ⟨v, g, hC _ _ _ _ c, hK _ _ _ _ k⟩
  · refine Or.inr ⟨E, g, hC _ _ _ _ c, hE, ?_⟩
    rcases k with ⟨t, k1, k2⟩ | k
    · exact Or.inl ⟨t, k1, hK _ _ _ _ k2⟩
    · exact Or.inr k
theorem ax_b_mono (hC : ∀ mi as h r, C mi as h r → C' mi as h r) (hK : ∀ pc lv st h, K pc lv st h → K' pc lv st h) {i : Instr} {pc nx tg : Nat} {lv : ax_L} {st : List Value} {h : ax_H} (hb : ax_b C M i pc nx tg lv st h r K) : ax_b C' M i pc nx tg lv st h r K' := by
  cases i with
  | ldc ix => obtain ⟨v, a, k⟩ := hb; exact ⟨v, a, hK _ _ _ _ k⟩
  | ldc2_w ix => obtain ⟨v, a, k⟩ := hb; exact ⟨v, a, hK _ _ _ _ k⟩
  | idiv => obtain ⟨x, y, s, a, b, k⟩ := hb; exact ⟨x, y, s, a, b, hK _ _ _ _ k⟩
  | ldiv => obtain ⟨x, y, s, a, b, k⟩ := hb; exact ⟨x, y, s, a, b, hK _ _ _ _ k⟩
  | lrem => obtain ⟨x, y, s, a, b, k⟩ := hb; exact ⟨x, y, s, a, b, hK _ _ _ _ k⟩
  | if_icmp c o => obtain ⟨x, y, s, a, k1, k2⟩ := hb; exact ⟨x, y, s, a, fun q => hK _ _ _ _ (k1 q), fun q => hK _ _ _ _ (k2 q)⟩
  | ifCond c o => obtain ⟨x, s, a, k1, k2⟩ := hb; exact ⟨x, s, a, fun q => hK _ _ _ _ (k1 q), fun q => hK _ _ _ _ (k2 q)⟩
  | ifnull o => obtain ⟨v, s, a, k⟩ := hb; exact ⟨v, s, a, k.imp (fun q => ⟨q.1, hK _ _ _ _ q.2⟩) (fun q => ⟨q.1, hK _ _ _ _ q.2⟩)⟩
  | ifnonnull o => obtain ⟨v, s, a, k⟩ := hb; exact ⟨v, s, a, k.imp (fun q => ⟨q.1, hK _ _ _ _ q.2⟩) (fun q => ⟨q.1, hK _ _ _ _ q.2⟩)⟩
  | tableswitch d lo hi offs => obtain ⟨x, s, t, a, b, k⟩ := hb; exact ⟨x, s, t, a, b, hK _ _ _ _ k⟩
  | lookupswitch d ps => obtain ⟨x, s, a, k⟩ := hb; exact ⟨x, s, a, hK _ _ _ _ k⟩
  | getfield ix => obtain ⟨a, s, ci, k, fs, v, a1, a2, a3, a4, q⟩ := hb; exact ⟨a, s, ci, k, fs, v, a1, a2, a3, a4, hK _ _ _ _ q⟩
  | putfield ix => obtain ⟨a, v, s, ci, k, fs, a1, a2, a3, a4, a5, a6, a7, q⟩ := hb; exact ⟨a, v, s, ci, k, fs, a1, a2, a3, a4, a5, a6, a7, hK _ _ _ _ q⟩
  | iaload => obtain ⟨a, j, s, k, n, f, a1, a2, a3, a4, q⟩ := hb; exact ⟨a, j, s, k, n, f, a1, a2, a3, a4, hK _ _ _ _ q⟩
  | caload => obtain ⟨a, j, s, n, f, a1, a2, a3, q⟩ := hb; exact ⟨a, j, s, n, f, a1, a2, a3, hK _ _ _ _ q⟩
  | laload => obtain ⟨a, j, s, n, f, a1, a2, a3, q⟩ := hb; exact ⟨a, j, s, n, f, a1, a2, a3, hK _ _ _ _ q⟩
  | aaload => obtain ⟨a, j, s, k, n, f, a1, a2, a3, a4, q⟩ := hb; exact ⟨a, j, s, k, n, f, a1, a2, a3, a4, hK _ _ _ _ q⟩
  | iastore => obtain ⟨a, j, x, s, n, f, a1, a2, a3, q⟩ := hb; exact ⟨a, j, x, s, n, f, a1, a2, a3, hK _ _ _ _ q⟩
  | castore => obtain ⟨a, j, x, s, n, f, a1, a2, a3, q⟩ := hb; exact ⟨a, j, x, s, n, f, a1, a2, a3, hK _ _ _ _ q⟩
  | lastore => obtain ⟨a, j, x, s, n, f, a1, a2, a3, q⟩ := hb; exact ⟨a, j, x, s, n, f, a1, a2, a3, hK _ _ _ _ q⟩
  | aastore => obtain ⟨a, j, o, s, k, n, f, a1, a2, a3, a4, a5, q⟩ := hb; exact ⟨a, j, o, s, k, n, f, a1, a2, a3, a4, a5, hK _ _ _ _ q⟩
  | arraylength => obtain ⟨a, s, k, n, z, a1, a2, a3, q⟩ := hb; exact ⟨a, s, k, n, z, a1, a2, a3, hK _ _ _ _ q⟩
  | newarray t => obtain ⟨n, s, k, a1, a2, a3, a4, q⟩ := hb; exact ⟨n, s, k, a1, a2, a3, a4, hK _ _ _ _ q⟩
  | anewarray ix => obtain ⟨n, s, k, a1, a2, a3, a4, q⟩ := hb; exact ⟨n, s, k, a1, a2, a3, a4, hK _ _ _ _ q⟩
  | new ix =>
    rcases hb with ⟨ci, a, q⟩ | hb
    · exact Or.inl ⟨ci, a, hK _ _ _ _ q⟩
    · exact Or.inr hb
  | invokestatic ix => exact ax_call_mono hC hK hb
  | invokevirtual ix => exact ⟨hb.1, ax_call_mono hC hK hb.2⟩
  | invokespecial ix =>
    rcases hb with ⟨a1, a, s, a2, a3, q⟩ | hb
    · exact Or.inl ⟨a1, a, s, a2, a3, hK _ _ _ _ q⟩
    · exact Or.inr ⟨hb.1, ax_call_mono hC hK hb.2⟩
  | ireturn => exact hb
  | lreturn => exact hb
  | areturn => exact hb
  | return_ => exact hb
  | _ => exact hb
theorem ax_step_mono (hC : ∀ mi as h r, C mi as h r → C' mi as h r) (hK : ∀ pc lv st h, K pc lv st h → K' pc lv st h) {pc : Nat} {lv : ax_L} {st : List Value} {h : ax_H} (hb : ax_step C M pc lv st h r K) : ax_step C' M pc lv st h r K' := by
  obtain ⟨i, nx, tg, hd, q⟩ := hb
  exact ⟨i, nx, tg, hd, q.imp (fun ⟨s, a, k⟩ => ⟨s, a, hK _ _ _ _ k⟩) (ax_b_mono hC hK)⟩
theorem ax_go_mono (hC : ∀ mi as h r, C mi as h r → C' mi as h r) {pc : Nat} {lv : ax_L} {st : List Value} {h : ax_H} (hg : ax_go C M r pc lv st h) : ax_go C' M r pc lv st h :=
  fun P hP => hg P (fun pc lv st h q => hP pc lv st h (ax_step_mono hC (fun _ _ _ _ k => k) q))
theorem ax_go_st {pc : Nat} {lv : ax_L} {st : List Value} {h : ax_H} (q : ax_step C M pc lv st h r (ax_go C M r)) : ax_go C M r pc lv st h :=
  fun P hP => hP _ _ _ _ (ax_step_mono (fun _ _ _ _ k => k) (fun _ _ _ _ k => k P hP) q)
end AxMono
/-- a method's run out of its body's -/
theorem ax_run_of {mi : Nat} {as : List Value} {h : ax_H} {r : ax_R} (M : ax_M) (hM : ax_pr[mi]? = some M) (hw : ax_wsum as ≤ ax_nl mi) (hg : ax_go ax_run M r 0 (lv_args 0 as) [] h) : ax_run mi as h r :=
  fun P hP => hP _ _ _ _ ⟨M, hM, hw, ax_go_mono (fun _ _ _ _ q => q P hP) hg⟩
section AxRows
variable {C : Nat → List Value → ax_H → ax_R → Prop} {M : ax_M} {r : ax_R} {pc nx tg : Nat} {lv lv' : ax_L} {st st' : List Value} {h h' : ax_H}
/-- straight on -/
theorem gs {i : Instr} {pc' : Nat} (hd : M.2.2.1.lookup pc = some (i, nx, tg)) (hs : ax_s i nx tg lv st h = some (pc', lv', st', h')) (k : ax_go C M r pc' lv' st' h') : ax_go C M r pc lv st h := ax_go_st ⟨i, nx, tg, hd, Or.inl ⟨_, hs, k⟩⟩
theorem gb {i : Instr} (hd : M.2.2.1.lookup pc = some (i, nx, tg)) (hb : ax_b C M i pc nx tg lv st h r (ax_go C M r)) : ax_go C M r pc lv st h := ax_go_st ⟨i, nx, tg, hd, Or.inr hb⟩
theorem g_ldc {ix : Nat} {v : Int32} (hd : M.2.2.1.lookup pc = some (.ldc ix, nx, tg)) (hv : ax_tI.lookup (ax_key M ix) = some v) (k : ax_go C M r nx lv (.int v :: st) h) : ax_go C M r pc lv st h := gb hd ⟨v, hv, k⟩
theorem g_ldc2 {ix : Nat} {v : Int64} (hd : M.2.2.1.lookup pc = some (.ldc2_w ix, nx, tg)) (hv : ax_tL.lookup (ax_key M ix) = some v) (k : ax_go C M r nx lv (.long v :: st) h) : ax_go C M r pc lv st h := gb hd ⟨v, hv, k⟩
theorem g_idiv {x y : Int32} (hd : M.2.2.1.lookup pc = some (.idiv, nx, tg)) (hy : ¬ y = 0) (k : ax_go C M r nx lv (.int (x / y) :: st) h) : ax_go C M r pc lv (.int y :: .int x :: st) h := gb hd ⟨x, y, st, rfl, hy, k⟩
theorem g_ldiv {x y : Int64} (hd : M.2.2.1.lookup pc = some (.ldiv, nx, tg)) (hy : ¬ y = 0) (k : ax_go C M r nx lv (.long (x / y) :: st) h) : ax_go C M r pc lv (.long y :: .long x :: st) h := gb hd ⟨x, y, st, rfl, hy, k⟩
theorem g_lrem {x y : Int64} (hd : M.2.2.1.lookup pc = some (.lrem, nx, tg)) (hy : ¬ y = 0) (k : ax_go C M r nx lv (.long (x - x / y * y) :: st) h) : ax_go C M r pc lv (.long y :: .long x :: st) h := gb hd ⟨x, y, st, rfl, hy, k⟩
/-- two ways -/
theorem g_if2 {c : ClassFile.Cond} {o : Int} {x y : Int32} (hd : M.2.2.1.lookup pc = some (.if_icmp c o, nx, tg)) (k1 : ax_cnd c x y → ax_go C M r tg lv st h) (k2 : ¬ ax_cnd c x y → ax_go C M r nx lv st h) : ax_go C M r pc lv (.int y :: .int x :: st) h := gb hd ⟨x, y, st, rfl, k1, k2⟩
theorem g_if1 {c : ClassFile.Cond} {o : Int} {x : Int32} (hd : M.2.2.1.lookup pc = some (.ifCond c o, nx, tg)) (k1 : ax_cnd c x 0 → ax_go C M r tg lv st h) (k2 : ¬ ax_cnd c x 0 → ax_go C M r nx lv st h) : ax_go C M r pc lv (.int x :: st) h := gb hd ⟨x, st, rfl, k1, k2⟩
theorem g_nul {o : Int} (hd : M.2.2.1.lookup pc = some (.ifnull o, nx, tg)) (k : ax_go C M r tg lv st h) : ax_go C M r pc lv (.null :: st) h := gb hd ⟨.null, st, rfl, Or.inl ⟨rfl, k⟩⟩
theorem g_nulR {o : Int} {a : Nat} (hd : M.2.2.1.lookup pc = some (.ifnull o, nx, tg)) (k : ax_go C M r nx lv st h) : ax_go C M r pc lv (.ref a :: st) h := gb hd ⟨.ref a, st, rfl, Or.inr ⟨⟨a, rfl⟩, k⟩⟩
theorem g_nnl {o : Int} (hd : M.2.2.1.lookup pc = some (.ifnonnull o, nx, tg)) (k : ax_go C M r nx lv st h) : ax_go C M r pc lv (.null :: st) h := gb hd ⟨.null, st, rfl, Or.inl ⟨rfl, k⟩⟩
theorem g_nnlR {o : Int} {a : Nat} (hd : M.2.2.1.lookup pc = some (.ifnonnull o, nx, tg)) (k : ax_go C M r tg lv st h) : ax_go C M r pc lv (.ref a :: st) h := gb hd ⟨.ref a, st, rfl, Or.inr ⟨⟨a, rfl⟩, k⟩⟩
theorem g_tsw {d lo hi : Int} {offs : Array Int} {x : Int32} {t : Nat} (hd : M.2.2.1.lookup pc = some (.tableswitch d lo hi offs, nx, tg)) (ht : ax_tsw pc d lo hi offs x = some t) (k : ax_go C M r t lv st h) : ax_go C M r pc lv (.int x :: st) h := gb hd ⟨x, st, t, rfl, ht, k⟩
theorem g_lsw {d : Int} {ps : Array (Int × Int)} {x : Int32} {t : Nat} (hd : M.2.2.1.lookup pc = some (.lookupswitch d ps, nx, tg)) (ht : ax_to pc (Op.lookupswitch.offset ps.toList d x.toInt) = t) (k : ax_go C M r t lv st h) : ax_go C M r pc lv (.int x :: st) h := gb hd ⟨x, st, rfl, by rw [ht]; exact k⟩
/-- fields -/
theorem g_get {ix a ci j : Nat} {fs : List Value} {v : Value} (hd : M.2.2.1.lookup pc = some (.getfield ix, nx, tg)) (hf : ax_tF.lookup (ax_key M ix) = some (ci, j)) (hc : h.1[a]? = some (some (.inr (ci, fs)))) (hv : fs[j]? = some v) (k : ax_go C M r nx lv (v :: st) h) : ax_go C M r pc lv (.ref a :: st) h := gb hd ⟨a, st, ci, j, fs, v, rfl, hf, hc, hv, k⟩
theorem g_put {ix a ci j : Nat} {fs : List Value} {v : Value} (hd : M.2.2.1.lookup pc = some (.putfield ix, nx, tg)) (hf : ax_tF.lookup (ax_key M ix) = some (ci, j)) (hc : h.1[a]? = some (some (.inr (ci, fs)))) (hl : j < fs.length) (hw : ax_fin ci j = false ∨ (M.2.2.2.2 = true ∧ M.1 = ci)) (hn : narrow (ax_ty ci j) v = v) (ht : fits (ax_ty ci j) v = true)
    (k : ax_go C M r nx lv st (h.1.set a (some (.inr (ci, fs.set j v))), h.2)) : ax_go C M r pc lv (v :: .ref a :: st) h := gb hd ⟨a, v, st, ci, j, fs, rfl, hf, hc, hl, hw, hn, ht, k⟩
/-- arrays -/
theorem g_iald {a n : Nat} {i : Int32} {f : Nat → Int32} (hd : M.2.2.1.lookup pc = some (.iaload, nx, tg)) (hc : h.1[a]? = some (some (.inl (0, n, .inl f)))) (hi : vp_in i n) (k : ax_go C M r nx lv (.int (f i.toNatClampNeg) :: st) h) : ax_go C M r pc lv (.int i :: .ref a :: st) h := gb hd ⟨a, i, st, 0, n, f, rfl, hc, Or.inl rfl, hi, k⟩
theorem g_sald {a n : Nat} {i : Int32} {f : Nat → Int32} (hd : M.2.2.1.lookup pc = some (.iaload, nx, tg)) (hc : h.1[a]? = some (some (.inl (9, n, .inl f)))) (hi : vp_in i n) (k : ax_go C M r nx lv (.int (f i.toNatClampNeg) :: st) h) : ax_go C M r pc lv (.int i :: .ref a :: st) h := gb hd ⟨a, i, st, 9, n, f, rfl, hc, Or.inr rfl, hi, k⟩
theorem g_cald {a n : Nat} {i : Int32} {f : Nat → Int32} (hd : M.2.2.1.lookup pc = some (.caload, nx, tg)) (hc : h.1[a]? = some (some (.inl (2, n, .inl f)))) (hi : vp_in i n) (k : ax_go C M r nx lv (.int (f i.toNatClampNeg) :: st) h) : ax_go C M r pc lv (.int i :: .ref a :: st) h := gb hd ⟨a, i, st, n, f, rfl, hc, hi, k⟩
theorem g_lald {a n : Nat} {i : Int32} {f : Nat → Int64} (hd : M.2.2.1.lookup pc = some (.laload, nx, tg)) (hc : h.1[a]? = some (some (.inl (1, n, .inr (.inl f))))) (hi : vp_in i n) (k : ax_go C M r nx lv (.long (f i.toNatClampNeg) :: st) h) : ax_go C M r pc lv (.int i :: .ref a :: st) h := gb hd ⟨a, i, st, n, f, rfl, hc, hi, k⟩
theorem g_aald {a n q : Nat} {i : Int32} {f : Nat → Option Nat} (hd : M.2.2.1.lookup pc = some (.aaload, nx, tg)) (hc : h.1[a]? = some (some (.inl (q, n, .inr (.inr (.inr (.inr f))))))) (hq : q = 3 ∨ q = 4) (hi : vp_in i n) (k : ax_go C M r nx lv (va_rf (f i.toNatClampNeg) :: st) h) : ax_go C M r pc lv (.int i :: .ref a :: st) h := gb hd ⟨a, i, st, q, n, f, rfl, hc, hq, hi, k⟩
theorem g_iast {a n : Nat} {i x : Int32} {f : Nat → Int32} (hd : M.2.2.1.lookup pc = some (.iastore, nx, tg)) (hc : h.1[a]? = some (some (.inl (0, n, .inl f)))) (hi : vp_in i n) (k : ax_go C M r nx lv st (h.1.set a (some (.inl (0, n, .inl (upd f i.toNatClampNeg x)))), h.2)) : ax_go C M r pc lv (.int x :: .int i :: .ref a :: st) h := gb hd ⟨a, i, x, st, n, f, rfl, hc, hi, k⟩
theorem g_cast {a n : Nat} {i x : Int32} {f : Nat → Int32} (hd : M.2.2.1.lookup pc = some (.castore, nx, tg)) (hc : h.1[a]? = some (some (.inl (2, n, .inl f)))) (hi : vp_in i n) (k : ax_go C M r nx lv st (h.1.set a (some (.inl (2, n, .inl (upd f i.toNatClampNeg (vp_nar .char x))))), h.2)) : ax_go C M r pc lv (.int x :: .int i :: .ref a :: st) h := gb hd ⟨a, i, x, st, n, f, rfl, hc, hi, k⟩
theorem g_last {a n : Nat} {i : Int32} {x : Int64} {f : Nat → Int64} (hd : M.2.2.1.lookup pc = some (.lastore, nx, tg)) (hc : h.1[a]? = some (some (.inl (1, n, .inr (.inl f))))) (hi : vp_in i n) (k : ax_go C M r nx lv st (h.1.set a (some (.inl (1, n, .inr (.inl (vp_updL f i.toNatClampNeg x))))), h.2)) : ax_go C M r pc lv (.long x :: .int i :: .ref a :: st) h := gb hd ⟨a, i, x, st, n, f, rfl, hc, hi, k⟩
theorem g_aast {a n q v : Nat} {i : Int32} {f : Nat → Option Nat} {fs : List Value} (hd : M.2.2.1.lookup pc = some (.aastore, nx, tg)) (hc : h.1[a]? = some (some (.inl (q, n, .inr (.inr (.inr (.inr f))))))) (hq : q = 3 ∨ q = 4) (hi : vp_in i n) (hv : h.1[v]? = some (some (.inr (ax_cmp q, fs))))
    (k : ax_go C M r nx lv st (h.1.set a (some (.inl (q, n, .inr (.inr (.inr (.inr (va_up f i.toNatClampNeg (some v)))))))), h.2)) : ax_go C M r pc lv (.ref v :: .int i :: .ref a :: st) h := gb hd ⟨a, i, some v, st, q, n, f, rfl, hc, hq, hi, fun w e => by cases e; exact ⟨fs, hv⟩, k⟩
theorem g_aastN {a n q : Nat} {i : Int32} {f : Nat → Option Nat} (hd : M.2.2.1.lookup pc = some (.aastore, nx, tg)) (hc : h.1[a]? = some (some (.inl (q, n, .inr (.inr (.inr (.inr f))))))) (hq : q = 3 ∨ q = 4) (hi : vp_in i n)
    (k : ax_go C M r nx lv st (h.1.set a (some (.inl (q, n, .inr (.inr (.inr (.inr (va_up f i.toNatClampNeg none))))))), h.2)) : ax_go C M r pc lv (.null :: .int i :: .ref a :: st) h := gb hd ⟨a, i, none, st, q, n, f, rfl, hc, hq, hi, (fun w e => by cases e), k⟩
theorem g_alen {a q n : Nat} {z : (Nat → Int32) ⊕ (Nat → Int64) ⊕ (Nat → UInt32) ⊕ (Nat → UInt64) ⊕ (Nat → Option Nat)} (hd : M.2.2.1.lookup pc = some (.arraylength, nx, tg)) (hc : h.1[a]? = some (some (.inl (q, n, z)))) (hq : q < 5 ∨ (q = 9 ∧ a = 0)) (k : ax_go C M r nx lv (.int (nI n) :: st) h) : ax_go C M r pc lv (.ref a :: st) h := gb hd ⟨a, st, q, n, z, rfl, hc, hq, k⟩
theorem g_newa {t : ArrayType} {n : Int32} {q : Nat} (hd : M.2.2.1.lookup pc = some (.newarray t, nx, tg)) (ht : ax_ak t = some q) (hn : ¬ n < 0) (hm : n.toNatClampNeg ≤ 1000000) (k : ax_go C M r nx lv (.ref h.1.length :: st) (h.1 ++ [some (.inl (q, n.toNatClampNeg, ax_blank q))], h.2 + n.toNatClampNeg)) : ax_go C M r pc lv (.int n :: st) h := gb hd ⟨n, st, q, rfl, ht, hn, hm, k⟩
theorem g_newq {ix : Nat} {n : Int32} {q : Nat} (hd : M.2.2.1.lookup pc = some (.anewarray ix, nx, tg)) (ht : ax_tR.lookup (ax_key M ix) = some q) (hn : ¬ n < 0) (hm : n.toNatClampNeg ≤ 1000000) (k : ax_go C M r nx lv (.ref h.1.length :: st) (h.1 ++ [some (.inl (q, n.toNatClampNeg, ax_blank q))], h.2 + n.toNatClampNeg)) : ax_go C M r pc lv (.int n :: st) h := gb hd ⟨n, st, q, rfl, ht, hn, hm, k⟩
theorem g_new {ix ci : Nat} (hd : M.2.2.1.lookup pc = some (.new ix, nx, tg)) (hn : ax_tN.lookup (ax_key M ix) = some ci) (k : ax_go C M r nx lv (.ref h.1.length :: st) (h.1 ++ [some (.inr (ci, ax_dfl ci))], h.2 + (ax_dfl ci).length)) : ax_go C M r pc lv st h := gb hd (Or.inl ⟨ci, hn, k⟩)
theorem g_thr {ix E ik is : Nat} (hd : M.2.2.1.lookup pc = some (.new ix, nx, tg)) (hx : ax_tX.lookup (ax_key M ix) = some (E, ik)) (hh : M.2.2.2.1 = []) (h1 : M.2.2.1.lookup nx = some (.dup, nx + 1, 0)) (h2 : M.2.2.1.lookup (nx + 1) = some (.ldc is, nx + 3, 0)) (h3 : ax_key M is ∈ ax_tS) (h4 : M.2.2.1.lookup (nx + 3) = some (.invokespecial ik, nx + 6, 0)) (h5 : M.2.2.1.lookup (nx + 6) = some (.athrow, nx + 7, 0)) (hr : r = (.inr E, (h.1 ++ [none], h.2 + 6))) : ax_go C M r pc lv [] h := gb hd (Or.inr ⟨E, ik, is, hx, rfl, hh, h1, h2, h3, h4, h5, hr⟩)
/-- calls: n values, the receiver among them -/
theorem g_cs {ix mi n : Nat} {v : Option Value} {h1 : ax_H} (hd : M.2.2.1.lookup pc = some (.invokestatic ix, nx, tg)) (hm : ax_tM.lookup (ax_key M ix) = some (mi, n)) (hc : C mi (st.take n).reverse h (.inl v, h1)) (hn : n ≤ st.length) (hw : ax_wsum (st.drop n) ≤ 8) (k : ax_go C M r nx lv (v.toList ++ st.drop n) h1) : ax_go C M r pc lv st h := gb hd ⟨mi, n, hm, hn, hw, Or.inl ⟨v, h1, hc, k⟩⟩
theorem g_cv {ix mi n a : Nat} {as fs : List Value} {v : Option Value} {h1 : ax_H} (hd : M.2.2.1.lookup pc = some (.invokevirtual ix, nx, tg)) (hm : ax_tM.lookup (ax_key M ix) = some (mi, n)) (ha : (st.take n).reverse = .ref a :: as) (ho : h.1[a]? = some (some (.inr (ax_rc mi, fs)))) (hc : C mi (st.take n).reverse h (.inl v, h1)) (hn : n ≤ st.length) (hw : ax_wsum (st.drop n) ≤ 8) (k : ax_go C M r nx lv (v.toList ++ st.drop n) h1) : ax_go C M r pc lv st h := gb hd ⟨⟨mi, n, a, as, fs, hm, ha, ho⟩, mi, n, hm, hn, hw, Or.inl ⟨v, h1, hc, k⟩⟩
theorem g_ci {ix mi n a : Nat} {as : List Value} {v : Option Value} {h1 : ax_H} (hd : M.2.2.1.lookup pc = some (.invokespecial ix, nx, tg)) (hm : ax_tM.lookup (ax_key M ix) = some (mi, n)) (ha : (st.take n).reverse = .ref a :: as) (hc : C mi (st.take n).reverse h (.inl v, h1)) (hn : n ≤ st.length) (hw : ax_wsum (st.drop n) ≤ 8) (k : ax_go C M r nx lv (v.toList ++ st.drop n) h1) : ax_go C M r pc lv st h := gb hd (Or.inr ⟨⟨mi, n, a, as, hm, ha⟩, mi, n, hm, hn, hw, Or.inl ⟨v, h1, hc, k⟩⟩)
theorem g_oi {ix a : Nat} (hd : M.2.2.1.lookup pc = some (.invokespecial ix, nx, tg)) (ho : ax_key M ix ∈ ax_tO) (hw : ax_wsum st ≤ 8) (k : ax_go C M r nx lv st h) : ax_go C M r pc lv (.ref a :: st) h := gb hd (Or.inl ⟨ho, a, st, rfl, hw, k⟩)
/-- a call that throws, and nobody here takes it -/
theorem g_cvx {ix mi n E a : Nat} {as fs : List Value} {h1 : ax_H} (hd : M.2.2.1.lookup pc = some (.invokevirtual ix, nx, tg)) (hm : ax_tM.lookup (ax_key M ix) = some (mi, n)) (ha : (st.take n).reverse = .ref a :: as) (ho : h.1[a]? = some (some (.inr (ax_rc mi, fs)))) (hc : C mi (st.take n).reverse h (.inr E, h1)) (hn : n ≤ st.length) (hw : ax_wsum (st.drop n) ≤ 8) (hE : E < 2) (hh : ax_hand M.1 M.2.2.2.1 pc E = none) (hr : r = (.inr E, h1)) : ax_go C M r pc lv st h := gb hd ⟨⟨mi, n, a, as, fs, hm, ha, ho⟩, mi, n, hm, hn, hw, Or.inr ⟨E, h1, hc, hE, Or.inr ⟨hh, hr⟩⟩⟩
theorem g_csx {ix mi n E : Nat} {h1 : ax_H} (hd : M.2.2.1.lookup pc = some (.invokestatic ix, nx, tg)) (hm : ax_tM.lookup (ax_key M ix) = some (mi, n)) (hc : C mi (st.take n).reverse h (.inr E, h1)) (hn : n ≤ st.length) (hw : ax_wsum (st.drop n) ≤ 8) (hE : E < 2) (hh : ax_hand M.1 M.2.2.2.1 pc E = none) (hr : r = (.inr E, h1)) : ax_go C M r pc lv st h := gb hd ⟨mi, n, hm, hn, hw, Or.inr ⟨E, h1, hc, hE, Or.inr ⟨hh, hr⟩⟩⟩
/-- a call that throws, taken here -/
theorem g_cvc {ix mi n E t a : Nat} {as fs : List Value} {h1 : ax_H} (hd : M.2.2.1.lookup pc = some (.invokevirtual ix, nx, tg)) (hm : ax_tM.lookup (ax_key M ix) = some (mi, n)) (ha : (st.take n).reverse = .ref a :: as) (ho : h.1[a]? = some (some (.inr (ax_rc mi, fs)))) (hc : C mi (st.take n).reverse h (.inr E, h1)) (hn : n ≤ st.length) (hw : ax_wsum (st.drop n) ≤ 8) (hE : E < 2) (hh : ax_hand M.1 M.2.2.2.1 pc E = some t) (k : ax_go C M r t lv [.ref (h1.1.length - 1)] h1) : ax_go C M r pc lv st h := gb hd ⟨⟨mi, n, a, as, fs, hm, ha, ho⟩, mi, n, hm, hn, hw, Or.inr ⟨E, h1, hc, hE, Or.inl ⟨t, hh, k⟩⟩⟩
/-- ends -/
theorem g_iret {x : Int32} {rt : FieldType} (hd : M.2.2.1.lookup pc = some (.ireturn, nx, tg)) (ht : M.2.1 = some rt) (hx : narrow rt (.int x) = .int x) (hr : r = (.inl (some (.int x)), h)) : ax_go C M r pc lv [.int x] h := gb hd ⟨x, rt, rfl, ht, hx, hr⟩
theorem g_lret {x : Int64} (hd : M.2.2.1.lookup pc = some (.lreturn, nx, tg)) (ht : M.2.1 = some .long) (hr : r = (.inl (some (.long x)), h)) : ax_go C M r pc lv [.long x] h := gb hd ⟨x, rfl, ht, hr⟩
theorem g_aret {v : Value} {n : String} (hd : M.2.2.1.lookup pc = some (.areturn, nx, tg)) (ht : M.2.1 = some (.object n)) (hv : ax_isA v = true) (hr : r = (.inl (some v), h)) : ax_go C M r pc lv [v] h := gb hd ⟨v, n, rfl, ht, hv, hr⟩
theorem g_vret (hd : M.2.2.1.lookup pc = some (.return_, nx, tg)) (ht : M.2.1 = none) (hr : r = (.inl none, h)) : ax_go C M r pc lv [] h := gb hd ⟨rfl, ht, hr⟩
end AxRows
end
section
/-! the cells of the law's run: 0 the script; 1 to 22 the class's; 23 to 38 the reference's; 39 the law's own; then a pool -/
abbrev ax_St : Type := ((((((Nat) × (Nat)) × (Nat)) × (((Nat) × (Nat)) × (Nat))) × ((((Nat) × (Nat → Int32)) × (Nat → Int32)) × ((Nat → Int32) × (Nat → Int32)))) × (((((Nat → Int32) × (Nat → Int32)) × (Nat → Int32)) × (((Nat → Int32) × (Nat → Int32)) × (Nat → Int32))) × ((((Nat → Int32) × (Nat → Int32)) × (Nat → Option Nat)) × ((Nat → Option Nat) × (Nat → Int64)))))
abbrev ax_St.told (c_ : ax_St) : Nat := c_.1.1.1.1.1
abbrev ax_St.tl (c_ : ax_St) : Nat := c_.1.1.1.1.2
abbrev ax_St.pl (c_ : ax_St) : Nat := c_.1.1.1.2
abbrev ax_St.bn (c_ : ax_St) : Nat := c_.1.1.2.1.1
abbrev ax_St.rn (c_ : ax_St) : Nat := c_.1.1.2.1.2
abbrev ax_St.qn (c_ : ax_St) : Nat := c_.1.1.2.2
abbrev ax_St.on (c_ : ax_St) : Nat := c_.1.2.1.1.1
abbrev ax_St.ch (c_ : ax_St) : Nat → Int32 := c_.1.2.1.1.2
abbrev ax_St.kinds (c_ : ax_St) : Nat → Int32 := c_.1.2.1.2
abbrev ax_St.values (c_ : ax_St) : Nat → Int32 := c_.1.2.2.1
abbrev ax_St.layers (c_ : ax_St) : Nat → Int32 := c_.1.2.2.2
abbrev ax_St.xs (c_ : ax_St) : Nat → Int32 := c_.2.1.1.1.1
abbrev ax_St.ys (c_ : ax_St) : Nat → Int32 := c_.2.1.1.1.2
abbrev ax_St.rt (c_ : ax_St) : Nat → Int32 := c_.2.1.1.2
abbrev ax_St.re (c_ : ax_St) : Nat → Int32 := c_.2.1.2.1.1
abbrev ax_St.qm (c_ : ax_St) : Nat → Int32 := c_.2.1.2.1.2
abbrev ax_St.parts (c_ : ax_St) : Nat → Int32 := c_.2.1.2.2
abbrev ax_St.ab (c_ : ax_St) : Nat → Int32 := c_.2.2.1.1.1
abbrev ax_St.be (c_ : ax_St) : Nat → Int32 := c_.2.2.1.1.2
abbrev ax_St.of (c_ : ax_St) : Nat → Option Nat := c_.2.2.1.2
abbrev ax_St.qo (c_ : ax_St) : Nat → Option Nat := c_.2.2.2.1
abbrev ax_St.qu (c_ : ax_St) : Nat → Int64 := c_.2.2.2.2
abbrev ax_St.u_told (c_ : ax_St) (z_ : Nat) : ax_St := (((((z_, c_.1.1.1.1.2), c_.1.1.1.2), c_.1.1.2), c_.1.2), c_.2)
abbrev ax_St.u_tl (c_ : ax_St) (z_ : Nat) : ax_St := (((((c_.1.1.1.1.1, z_), c_.1.1.1.2), c_.1.1.2), c_.1.2), c_.2)
abbrev ax_St.u_pl (c_ : ax_St) (z_ : Nat) : ax_St := ((((c_.1.1.1.1, z_), c_.1.1.2), c_.1.2), c_.2)
abbrev ax_St.u_bn (c_ : ax_St) (z_ : Nat) : ax_St := (((c_.1.1.1, ((z_, c_.1.1.2.1.2), c_.1.1.2.2)), c_.1.2), c_.2)
abbrev ax_St.u_rn (c_ : ax_St) (z_ : Nat) : ax_St := (((c_.1.1.1, ((c_.1.1.2.1.1, z_), c_.1.1.2.2)), c_.1.2), c_.2)
abbrev ax_St.u_qn (c_ : ax_St) (z_ : Nat) : ax_St := (((c_.1.1.1, (c_.1.1.2.1, z_)), c_.1.2), c_.2)
abbrev ax_St.u_on (c_ : ax_St) (z_ : Nat) : ax_St := ((c_.1.1, (((z_, c_.1.2.1.1.2), c_.1.2.1.2), c_.1.2.2)), c_.2)
abbrev ax_St.u_ch (c_ : ax_St) (z_ : Nat → Int32) : ax_St := ((c_.1.1, (((c_.1.2.1.1.1, z_), c_.1.2.1.2), c_.1.2.2)), c_.2)
abbrev ax_St.u_kinds (c_ : ax_St) (z_ : Nat → Int32) : ax_St := ((c_.1.1, ((c_.1.2.1.1, z_), c_.1.2.2)), c_.2)
abbrev ax_St.u_values (c_ : ax_St) (z_ : Nat → Int32) : ax_St := ((c_.1.1, (c_.1.2.1, (z_, c_.1.2.2.2))), c_.2)
abbrev ax_St.u_layers (c_ : ax_St) (z_ : Nat → Int32) : ax_St := ((c_.1.1, (c_.1.2.1, (c_.1.2.2.1, z_))), c_.2)
abbrev ax_St.u_xs (c_ : ax_St) (z_ : Nat → Int32) : ax_St := (c_.1, ((((z_, c_.2.1.1.1.2), c_.2.1.1.2), c_.2.1.2), c_.2.2))
abbrev ax_St.u_ys (c_ : ax_St) (z_ : Nat → Int32) : ax_St := (c_.1, ((((c_.2.1.1.1.1, z_), c_.2.1.1.2), c_.2.1.2), c_.2.2))
abbrev ax_St.u_rt (c_ : ax_St) (z_ : Nat → Int32) : ax_St := (c_.1, (((c_.2.1.1.1, z_), c_.2.1.2), c_.2.2))
abbrev ax_St.u_re (c_ : ax_St) (z_ : Nat → Int32) : ax_St := (c_.1, ((c_.2.1.1, ((z_, c_.2.1.2.1.2), c_.2.1.2.2)), c_.2.2))
abbrev ax_St.u_qm (c_ : ax_St) (z_ : Nat → Int32) : ax_St := (c_.1, ((c_.2.1.1, ((c_.2.1.2.1.1, z_), c_.2.1.2.2)), c_.2.2))
abbrev ax_St.u_parts (c_ : ax_St) (z_ : Nat → Int32) : ax_St := (c_.1, ((c_.2.1.1, (c_.2.1.2.1, z_)), c_.2.2))
abbrev ax_St.u_ab (c_ : ax_St) (z_ : Nat → Int32) : ax_St := (c_.1, (c_.2.1, (((z_, c_.2.2.1.1.2), c_.2.2.1.2), c_.2.2.2)))
abbrev ax_St.u_be (c_ : ax_St) (z_ : Nat → Int32) : ax_St := (c_.1, (c_.2.1, (((c_.2.2.1.1.1, z_), c_.2.2.1.2), c_.2.2.2)))
abbrev ax_St.u_of (c_ : ax_St) (z_ : Nat → Option Nat) : ax_St := (c_.1, (c_.2.1, ((c_.2.2.1.1, z_), c_.2.2.2)))
abbrev ax_St.u_qo (c_ : ax_St) (z_ : Nat → Option Nat) : ax_St := (c_.1, (c_.2.1, (c_.2.2.1, (z_, c_.2.2.2.2))))
abbrev ax_St.u_qu (c_ : ax_St) (z_ : Nat → Int64) : ax_St := (c_.1, (c_.2.1, (c_.2.2.1, (c_.2.2.2.1, z_))))
abbrev ax_Mo : Type := ((((((Int32) × (Nat)) × (Nat)) × (((Nat) × (Nat)) × (Nat))) × ((((Nat) × (Nat)) × (Int32)) × (((Nat → Int32) × (Nat → Int32)) × (Nat → Int32)))) × (((((Nat → Int32) × (Nat → Int32)) × (Nat → Int32)) × (((Nat → Int64) × (Nat → Int64)) × (Nat → Int64))) × ((((Nat → Int64) × (Nat → Int64)) × (Nat → Int64)) × (((Nat → Int64) × (Nat → Int64)) × (Nat → Int64)))))
abbrev ax_Mo.thrown (c_ : ax_Mo) : Int32 := c_.1.1.1.1.1
abbrev ax_Mo.units (c_ : ax_Mo) : Nat := c_.1.1.1.1.2
abbrev ax_Mo.makers (c_ : ax_Mo) : Nat := c_.1.1.1.2
abbrev ax_Mo.things (c_ : ax_Mo) : Nat := c_.1.1.2.1.1
abbrev ax_Mo.remarks (c_ : ax_Mo) : Nat := c_.1.1.2.1.2
abbrev ax_Mo.quotes (c_ : ax_Mo) : Nat := c_.1.1.2.2
abbrev ax_Mo.orders (c_ : ax_Mo) : Nat := c_.1.2.1.1.1
abbrev ax_Mo.at_ (c_ : ax_Mo) : Nat := c_.1.2.1.1.2
abbrev ax_Mo.wrong (c_ : ax_Mo) : Int32 := c_.1.2.1.2
abbrev ax_Mo.text (c_ : ax_Mo) : Nat → Int32 := c_.1.2.2.1.1
abbrev ax_Mo.classes (c_ : ax_Mo) : Nat → Int32 := c_.1.2.2.1.2
abbrev ax_Mo.kinds (c_ : ax_Mo) : Nat → Int32 := c_.1.2.2.2
abbrev ax_Mo.layers (c_ : ax_Mo) : Nat → Int32 := c_.2.1.1.1.1
abbrev ax_Mo.remarkOf (c_ : ax_Mo) : Nat → Int32 := c_.2.1.1.1.2
abbrev ax_Mo.quoteMaker (c_ : ax_Mo) : Nat → Int32 := c_.2.1.1.2
abbrev ax_Mo.numbers (c_ : ax_Mo) : Nat → Int64 := c_.2.1.2.1.1
abbrev ax_Mo.values (c_ : ax_Mo) : Nat → Int64 := c_.2.1.2.1.2
abbrev ax_Mo.x (c_ : ax_Mo) : Nat → Int64 := c_.2.1.2.2
abbrev ax_Mo.y (c_ : ax_Mo) : Nat → Int64 := c_.2.2.1.1.1
abbrev ax_Mo.excess (c_ : ax_Mo) : Nat → Int64 := c_.2.2.1.1.2
abbrev ax_Mo.until_ (c_ : ax_Mo) : Nat → Int64 := c_.2.2.1.2
abbrev ax_Mo.orderRow (c_ : ax_Mo) : Nat → Int64 := c_.2.2.2.1.1
abbrev ax_Mo.above (c_ : ax_Mo) : Nat → Int64 := c_.2.2.2.1.2
abbrev ax_Mo.below (c_ : ax_Mo) : Nat → Int64 := c_.2.2.2.2
abbrev ax_Mo.u_thrown (c_ : ax_Mo) (z_ : Int32) : ax_Mo := (((((z_, c_.1.1.1.1.2), c_.1.1.1.2), c_.1.1.2), c_.1.2), c_.2)
abbrev ax_Mo.u_units (c_ : ax_Mo) (z_ : Nat) : ax_Mo := (((((c_.1.1.1.1.1, z_), c_.1.1.1.2), c_.1.1.2), c_.1.2), c_.2)
abbrev ax_Mo.u_makers (c_ : ax_Mo) (z_ : Nat) : ax_Mo := ((((c_.1.1.1.1, z_), c_.1.1.2), c_.1.2), c_.2)
abbrev ax_Mo.u_things (c_ : ax_Mo) (z_ : Nat) : ax_Mo := (((c_.1.1.1, ((z_, c_.1.1.2.1.2), c_.1.1.2.2)), c_.1.2), c_.2)
abbrev ax_Mo.u_remarks (c_ : ax_Mo) (z_ : Nat) : ax_Mo := (((c_.1.1.1, ((c_.1.1.2.1.1, z_), c_.1.1.2.2)), c_.1.2), c_.2)
abbrev ax_Mo.u_quotes (c_ : ax_Mo) (z_ : Nat) : ax_Mo := (((c_.1.1.1, (c_.1.1.2.1, z_)), c_.1.2), c_.2)
abbrev ax_Mo.u_orders (c_ : ax_Mo) (z_ : Nat) : ax_Mo := ((c_.1.1, (((z_, c_.1.2.1.1.2), c_.1.2.1.2), c_.1.2.2)), c_.2)
abbrev ax_Mo.u_at_ (c_ : ax_Mo) (z_ : Nat) : ax_Mo := ((c_.1.1, (((c_.1.2.1.1.1, z_), c_.1.2.1.2), c_.1.2.2)), c_.2)
abbrev ax_Mo.u_wrong (c_ : ax_Mo) (z_ : Int32) : ax_Mo := ((c_.1.1, ((c_.1.2.1.1, z_), c_.1.2.2)), c_.2)
abbrev ax_Mo.u_text (c_ : ax_Mo) (z_ : Nat → Int32) : ax_Mo := ((c_.1.1, (c_.1.2.1, ((z_, c_.1.2.2.1.2), c_.1.2.2.2))), c_.2)
abbrev ax_Mo.u_classes (c_ : ax_Mo) (z_ : Nat → Int32) : ax_Mo := ((c_.1.1, (c_.1.2.1, ((c_.1.2.2.1.1, z_), c_.1.2.2.2))), c_.2)
abbrev ax_Mo.u_kinds (c_ : ax_Mo) (z_ : Nat → Int32) : ax_Mo := ((c_.1.1, (c_.1.2.1, (c_.1.2.2.1, z_))), c_.2)
abbrev ax_Mo.u_layers (c_ : ax_Mo) (z_ : Nat → Int32) : ax_Mo := (c_.1, ((((z_, c_.2.1.1.1.2), c_.2.1.1.2), c_.2.1.2), c_.2.2))
abbrev ax_Mo.u_remarkOf (c_ : ax_Mo) (z_ : Nat → Int32) : ax_Mo := (c_.1, ((((c_.2.1.1.1.1, z_), c_.2.1.1.2), c_.2.1.2), c_.2.2))
abbrev ax_Mo.u_quoteMaker (c_ : ax_Mo) (z_ : Nat → Int32) : ax_Mo := (c_.1, (((c_.2.1.1.1, z_), c_.2.1.2), c_.2.2))
abbrev ax_Mo.u_numbers (c_ : ax_Mo) (z_ : Nat → Int64) : ax_Mo := (c_.1, ((c_.2.1.1, ((z_, c_.2.1.2.1.2), c_.2.1.2.2)), c_.2.2))
abbrev ax_Mo.u_values (c_ : ax_Mo) (z_ : Nat → Int64) : ax_Mo := (c_.1, ((c_.2.1.1, ((c_.2.1.2.1.1, z_), c_.2.1.2.2)), c_.2.2))
abbrev ax_Mo.u_x (c_ : ax_Mo) (z_ : Nat → Int64) : ax_Mo := (c_.1, ((c_.2.1.1, (c_.2.1.2.1, z_)), c_.2.2))
abbrev ax_Mo.u_y (c_ : ax_Mo) (z_ : Nat → Int64) : ax_Mo := (c_.1, (c_.2.1, (((z_, c_.2.2.1.1.2), c_.2.2.1.2), c_.2.2.2)))
abbrev ax_Mo.u_excess (c_ : ax_Mo) (z_ : Nat → Int64) : ax_Mo := (c_.1, (c_.2.1, (((c_.2.2.1.1.1, z_), c_.2.2.1.2), c_.2.2.2)))
abbrev ax_Mo.u_until_ (c_ : ax_Mo) (z_ : Nat → Int64) : ax_Mo := (c_.1, (c_.2.1, ((c_.2.2.1.1, z_), c_.2.2.2)))
abbrev ax_Mo.u_orderRow (c_ : ax_Mo) (z_ : Nat → Int64) : ax_Mo := (c_.1, (c_.2.1, (c_.2.2.1, ((z_, c_.2.2.2.1.2), c_.2.2.2.2))))
abbrev ax_Mo.u_above (c_ : ax_Mo) (z_ : Nat → Int64) : ax_Mo := (c_.1, (c_.2.1, (c_.2.2.1, ((c_.2.2.2.1.1, z_), c_.2.2.2.2))))
abbrev ax_Mo.u_below (c_ : ax_Mo) (z_ : Nat → Int64) : ax_Mo := (c_.1, (c_.2.1, (c_.2.2.1, (c_.2.2.2.1, z_))))
abbrev ax_aI (n : Nat) (f : Nat → Int32) : Option ax_C := some (.inl (0, n, .inl f))
abbrev ax_aJ (n : Nat) (f : Nat → Int64) : Option ax_C := some (.inl (1, n, .inr (.inl f)))
abbrev ax_aC (n : Nat) (f : Nat → Int32) : Option ax_C := some (.inl (2, n, .inl f))
abbrev ax_aO (n : Nat) (f : Nat → Option Nat) : Option ax_C := some (.inl (3, n, .inr (.inr (.inr (.inr f)))))
abbrev ax_aG (n : Nat) (f : Nat → Option Nat) : Option ax_C := some (.inl (4, n, .inr (.inr (.inr (.inr f)))))
abbrev ax_ob (ci : Nat) (fs : List Value) : Option ax_C := some (.inr (ci, fs))
def ax_hp (L : Nat) (xs : Nat → Int32) (c : ax_St) (m : ax_Mo) (o : Nat → Int64) (pool : List (Option ax_C)) : List (Option ax_C) :=
  some (.inl (9, L, .inl xs)) ::
  ax_ob 0 [.ref 2, .ref 4, .int (nI c.told), .ref 5, .ref 11, .ref 14, .ref 18, .ref 20] ::
  ax_ob 8 [.ref 3, .int (nI c.tl), .int (nI c.pl)] :: ax_aC 400 c.ch ::
  ax_aO 4 c.of ::
  ax_ob 1 [.ref 6, .ref 7, .ref 8, .ref 9, .ref 10, .int (nI c.bn)] :: ax_aI 60 c.kinds :: ax_aI 60 c.values :: ax_aI 60 c.layers :: ax_aI 60 c.xs :: ax_aI 60 c.ys ::
  ax_ob 7 [.ref 12, .ref 13, .int (nI c.rn)] :: ax_aI 60 c.rt :: ax_aI 60 c.re ::
  ax_ob 6 [.ref 15, .ref 16, .ref 17, .int (nI c.qn)] :: ax_aI 10 c.qm :: ax_aO 10 c.qo :: ax_aJ 10 c.qu ::
  ax_ob 5 [.ref 19, .int (nI c.on)] :: ax_aI 140 c.parts ::
  ax_ob 2 [.ref 21, .ref 22] :: ax_aI 128 c.ab :: ax_aI 128 c.be ::
  ax_ob 9 [.int m.thrown, .int (nI m.units), .ref 24, .int (nI m.makers), .ref 25, .ref 26, .int (nI m.things), .ref 27, .ref 28, .ref 29, .ref 30, .ref 31, .int (nI m.remarks), .ref 32, .ref 33, .int (nI m.quotes), .ref 34, .ref 35, .int (nI m.orders), .ref 36, .ref 37, .ref 38, .int (nI m.at_), .int m.wrong] ::
  ax_aI 400 m.text :: ax_aI 15 m.classes :: ax_aJ 960 m.numbers :: ax_aI 60 m.kinds :: ax_aJ 60 m.values :: ax_aI 60 m.layers :: ax_aJ 60 m.x :: ax_aJ 60 m.y ::
  ax_aI 60 m.remarkOf :: ax_aJ 60 m.excess :: ax_aI 10 m.quoteMaker :: ax_aJ 10 m.until_ :: ax_aJ 140 m.orderRow :: ax_aJ 128 m.above :: ax_aJ 128 m.below ::
  ax_aJ 1 o :: pool
end
section
/-! fewer things need be known of the locals -/
def ax_hk (k : Nat) : ax_L → Bool
  | [] => false
  | q :: l => q.1 == k || ax_hk k l
def ax_nd : ax_L → Bool
  | [] => true
  | q :: l => !ax_hk q.1 l && ax_nd l
def ax_lle (l1 l2 : ax_L) : Prop := ax_nd l1 = true ∧ ∀ k v, l1.lookup k = some v → l2.lookup k = some v
theorem ax_hk_none {k : Nat} {l : ax_L} (h : ax_hk k l = false) : l.lookup k = none := by
  induction l with
  | nil => rfl
  | cons q l ih =>
    simp only [ax_hk, Bool.or_eq_false_iff] at h
    have e : (k == q.1) = false := by
      have := h.1
      simp only [beq_eq_false_iff_ne] at this ⊢
      exact fun z => this z.symm
    rw [List.lookup_cons, e]
    exact ih h.2
theorem ax_hk_filter {k : Nat} {l : ax_L} {f : Nat × Value → Bool} (h : ax_hk k l = false) : ax_hk k (l.filter f) = false := by
  induction l with
  | nil => rfl
  | cons q l ih =>
    simp only [ax_hk, Bool.or_eq_false_iff] at h
    by_cases hf : f q = true
    · rw [List.filter_cons_of_pos hf]
      simp only [ax_hk, Bool.or_eq_false_iff]
      exact ⟨h.1, ih h.2⟩
    · rw [List.filter_cons_of_neg hf]
      exact ih h.2
theorem ax_nd_filter {l : ax_L} {f : Nat × Value → Bool} (h : ax_nd l = true) : ax_nd (l.filter f) = true := by
  induction l with
  | nil => rfl
  | cons q l ih =>
    simp only [ax_nd, Bool.and_eq_true, Bool.not_eq_true'] at h
    by_cases hf : f q = true
    · rw [List.filter_cons_of_pos hf]
      simp only [ax_nd, Bool.and_eq_true, Bool.not_eq_true']
      exact ⟨ax_hk_filter h.1, ih h.2⟩
    · rw [List.filter_cons_of_neg hf]
      exact ih h.2
theorem ax_hk_gone {k : Nat} {l : ax_L} {f : Nat × Value → Bool} (h : ∀ w, f (k, w) = false) : ax_hk k (l.filter f) = false := by
  induction l with
  | nil => rfl
  | cons q l ih =>
    by_cases hf : f q = true
    · rw [List.filter_cons_of_pos hf]
      simp only [ax_hk, Bool.or_eq_false_iff, beq_eq_false_iff_ne]
      refine ⟨fun z => ?_, ih⟩
      have := h q.2
      rw [← z] at this
      rw [this] at hf
      cases hf
    · rw [List.filter_cons_of_neg hf]
      exact ih
theorem ax_fl_in {l : ax_L} {f : Nat × Value → Bool} {k : Nat} {v : Value} (h : l.lookup k = some v) (hf : f (k, v) = true) : (l.filter f).lookup k = some v := by
  induction l with
  | nil => simp at h
  | cons q l ih =>
    obtain ⟨i, w⟩ := q
    by_cases hk : k = i
    · subst hk
      simp at h
      subst h
      rw [List.filter_cons_of_pos hf]
      simp
    · have e : (k == i) = false := by simpa using hk
      rw [List.lookup_cons, e] at h
      by_cases hg : f (i, w) = true
      · rw [List.filter_cons_of_pos hg, List.lookup_cons, e]
        exact ih h
      · rw [List.filter_cons_of_neg hg]
        exact ih h
theorem ax_fl_out {l : ax_L} {f : Nat × Value → Bool} {k : Nat} {v : Value} (hn : ax_nd l = true) (h : (l.filter f).lookup k = some v) : l.lookup k = some v ∧ f (k, v) = true := by
  induction l with
  | nil => simp at h
  | cons q l ih =>
    obtain ⟨i, w⟩ := q
    simp only [ax_nd, Bool.and_eq_true, Bool.not_eq_true'] at hn
    by_cases hk : k = i
    · subst hk
      by_cases hg : f (k, w) = true
      · rw [List.filter_cons_of_pos hg] at h
        simp at h
        subst h
        simp [hg]
      · rw [List.filter_cons_of_neg hg] at h
        rw [ax_hk_none (ax_hk_filter hn.1)] at h
        cases h
    · have e : (k == i) = false := by simpa using hk
      rw [List.lookup_cons, e]
      by_cases hg : f (i, w) = true
      · rw [List.filter_cons_of_pos hg, List.lookup_cons, e] at h
        exact ih hn.2 h
      · rw [List.filter_cons_of_neg hg] at h
        exact ih hn.2 h
theorem ax_lle_cons {l1 l2 : ax_L} {f : Nat × Value → Bool} {i : Nat} {v : Value} (h : ax_lle l1 l2) (hf : ∀ w, f (i, w) = false) : ax_lle ((i, v) :: l1.filter f) ((i, v) :: l2.filter f) := by
  refine ⟨?_, fun k w hw => ?_⟩
  · simp only [ax_nd, Bool.and_eq_true, Bool.not_eq_true']
    exact ⟨ax_hk_gone hf, ax_nd_filter h.1⟩
  · rw [List.lookup_cons] at hw ⊢
    by_cases hk : (k == i) = true
    · rw [hk] at hw ⊢
      exact hw
    · have hk' : (k == i) = false := by simpa using hk
      rw [hk'] at hw ⊢
      obtain ⟨q1, q2⟩ := ax_fl_out h.1 hw
      exact ax_fl_in (h.2 k w q1) q2
theorem ax_lle_sto1 {l1 l2 : ax_L} {i : Nat} {v : Value} (h : ax_lle l1 l2) : ax_lle (ax_sto1 i v l1) (ax_sto1 i v l2) := ax_lle_cons h (fun w => by simp)
theorem ax_lle_sto2 {l1 l2 : ax_L} {i : Nat} {v : Value} (h : ax_lle l1 l2) : ax_lle (ax_sto2 i v l1) (ax_sto2 i v l2) := ax_lle_cons h (fun w => by simp)
theorem ax_s_lv {i : Instr} {nx tg : Nat} {l1 l2 : ax_L} {st : List Value} {h : ax_H} {s' : ax_S} (hl : ax_lle l1 l2) (hs : ax_s i nx tg l1 st h = some s') : ∃ l2', ax_s i nx tg l2 st h = some (s'.1, l2', s'.2.2.1, s'.2.2.2) ∧ ax_lle s'.2.1 l2' := by
  have ld : ∀ (ok : Value → Bool) (k : Nat), ax_load ok k nx l1 st h = some s' → ∃ l2', ax_load ok k nx l2 st h = some (s'.1, l2', s'.2.2.1, s'.2.2.2) ∧ ax_lle s'.2.1 l2' := by
    intro ok k hs
    unfold ax_load at hs ⊢
    cases hk : l1.lookup k with
    | none => rw [hk] at hs; cases hs
    | some v =>
      rw [hk] at hs
      rw [hl.2 k v hk]
      simp only at hs ⊢
      by_cases ho : ok v = true
      · rw [if_pos ho] at hs ⊢
        cases hs
        exact ⟨l2, rfl, hl⟩
      · rw [if_neg ho] at hs
        cases hs
  have s1 : ∀ (ok : Value → Bool) (k : Nat), ax_store1 ok k nx l1 st h = some s' → ∃ l2', ax_store1 ok k nx l2 st h = some (s'.1, l2', s'.2.2.1, s'.2.2.2) ∧ ax_lle s'.2.1 l2' := by
    intro ok k hs
    unfold ax_store1 at hs ⊢
    cases st with
    | nil => cases hs
    | cons v st =>
      simp only at hs ⊢
      by_cases ho : ok v = true
      · rw [if_pos ho] at hs ⊢
        cases hs
        exact ⟨_, rfl, ax_lle_sto1 hl⟩
      · rw [if_neg ho] at hs
        cases hs
  have s2 : ∀ (k : Nat), ax_store2 k nx l1 st h = some s' → ∃ l2', ax_store2 k nx l2 st h = some (s'.1, l2', s'.2.2.1, s'.2.2.2) ∧ ax_lle s'.2.1 l2' := by
    intro k hs
    unfold ax_store2 at hs ⊢
    split at hs
    · cases hs
      exact ⟨_, rfl, ax_lle_sto2 hl⟩
    · cases hs
  have ic : ∀ (k : Nat) (n : Int), ax_iinc k n nx l1 st h = some s' → ∃ l2', ax_iinc k n nx l2 st h = some (s'.1, l2', s'.2.2.1, s'.2.2.2) ∧ ax_lle s'.2.1 l2' := by
    intro k n hs
    unfold ax_iinc at hs ⊢
    split at hs
    · rename_i x hx
      rw [hl.2 _ _ hx]
      cases hs
      exact ⟨_, rfl, ax_lle_sto1 hl⟩
    · cases hs
  cases i with
  | iload k => exact ld _ _ hs
  | iload_n k => exact ld _ _ hs
  | lload k => exact ld _ _ hs
  | lload_n k => exact ld _ _ hs
  | aload k => exact ld _ _ hs
  | aload_n k => exact ld _ _ hs
  | istore k => exact s1 _ _ hs
  | istore_n k => exact s1 _ _ hs
  | astore k => exact s1 _ _ hs
  | astore_n k => exact s1 _ _ hs
  | lstore k => exact s2 _ hs
  | lstore_n k => exact s2 _ hs
  | iinc k n => exact ic _ _ hs
  | _ =>
    simp only [ax_s, ax_ii, ax_ll, ax_lshl, ax_i1, ax_l1, ax_dup] at hs ⊢
    first
    | (cases hs; done)
    | (cases hs; exact ⟨_, rfl, hl⟩)
    | (split at hs <;> first | (cases hs; exact ⟨_, rfl, hl⟩) | (split at hs <;> first | (cases hs; rename_i hc; exact ⟨_, if_pos hc, hl⟩) | cases hs) | cases hs)
section AxLv
variable {C : Nat → List Value → ax_H → ax_R → Prop} {M : ax_M} {r : ax_R} {K K' : Nat → ax_L → List Value → ax_H → Prop} {lv lv2 : ax_L}
theorem ax_call_lv (hK : ∀ pc st h, K pc lv st h → K' pc lv2 st h) {ix pc nx : Nat} {st : List Value} {h : ax_H} (hb : ax_call C M ix pc nx lv st h r K) : ax_call C M ix pc nx lv2 st h r K' := by
  obtain ⟨mi, n, h1, h2, h3, h4⟩ := hb
  refine ⟨mi, n, h1, h2, h3, ?_⟩
  rcases h4 with ⟨v, g, c, k⟩ | ⟨E, g, c, hE, k⟩
  · exact Or.inl ⟨v, g, c, hK _ _ _ k⟩
  · refine Or.inr ⟨E, g, c, hE, ?_⟩
    rcases k with ⟨t, k1, k2⟩ | k
    · exact Or.inl ⟨t, k1, hK _ _ _ k2⟩
    · exact Or.inr k
theorem ax_b_lv (hK : ∀ pc st h, K pc lv st h → K' pc lv2 st h) {i : Instr} {pc nx tg : Nat} {st : List Value} {h : ax_H} (hb : ax_b C M i pc nx tg lv st h r K) : ax_b C M i pc nx tg lv2 st h r K' := by
  cases i with
  | ldc ix => obtain ⟨v, a, k⟩ := hb; exact ⟨v, a, hK _ _ _ k⟩
  | ldc2_w ix => obtain ⟨v, a, k⟩ := hb; exact ⟨v, a, hK _ _ _ k⟩
  | idiv => obtain ⟨x, y, s, a, b, k⟩ := hb; exact ⟨x, y, s, a, b, hK _ _ _ k⟩
  | ldiv => obtain ⟨x, y, s, a, b, k⟩ := hb; exact ⟨x, y, s, a, b, hK _ _ _ k⟩
  | lrem => obtain ⟨x, y, s, a, b, k⟩ := hb; exact ⟨x, y, s, a, b, hK _ _ _ k⟩
  | if_icmp c o => obtain ⟨x, y, s, a, k1, k2⟩ := hb; exact ⟨x, y, s, a, fun q => hK _ _ _ (k1 q), fun q => hK _ _ _ (k2 q)⟩
  | ifCond c o => obtain ⟨x, s, a, k1, k2⟩ := hb; exact ⟨x, s, a, fun q => hK _ _ _ (k1 q), fun q => hK _ _ _ (k2 q)⟩
  | ifnull o => obtain ⟨v, s, a, k⟩ := hb; exact ⟨v, s, a, k.imp (fun q => ⟨q.1, hK _ _ _ q.2⟩) (fun q => ⟨q.1, hK _ _ _ q.2⟩)⟩
  | ifnonnull o => obtain ⟨v, s, a, k⟩ := hb; exact ⟨v, s, a, k.imp (fun q => ⟨q.1, hK _ _ _ q.2⟩) (fun q => ⟨q.1, hK _ _ _ q.2⟩)⟩
  | tableswitch d lo hi offs => obtain ⟨x, s, t, a, b, k⟩ := hb; exact ⟨x, s, t, a, b, hK _ _ _ k⟩
  | lookupswitch d ps => obtain ⟨x, s, a, k⟩ := hb; exact ⟨x, s, a, hK _ _ _ k⟩
  | getfield ix => obtain ⟨a, s, ci, k, fs, v, a1, a2, a3, a4, q⟩ := hb; exact ⟨a, s, ci, k, fs, v, a1, a2, a3, a4, hK _ _ _ q⟩
  | putfield ix => obtain ⟨a, v, s, ci, k, fs, a1, a2, a3, a4, a5, a6, a7, q⟩ := hb; exact ⟨a, v, s, ci, k, fs, a1, a2, a3, a4, a5, a6, a7, hK _ _ _ q⟩
  | iaload => obtain ⟨a, j, s, k, n, f, a1, a2, a3, a4, q⟩ := hb; exact ⟨a, j, s, k, n, f, a1, a2, a3, a4, hK _ _ _ q⟩
  | caload => obtain ⟨a, j, s, n, f, a1, a2, a3, q⟩ := hb; exact ⟨a, j, s, n, f, a1, a2, a3, hK _ _ _ q⟩
  | laload => obtain ⟨a, j, s, n, f, a1, a2, a3, q⟩ := hb; exact ⟨a, j, s, n, f, a1, a2, a3, hK _ _ _ q⟩
  | aaload => obtain ⟨a, j, s, k, n, f, a1, a2, a3, a4, q⟩ := hb; exact ⟨a, j, s, k, n, f, a1, a2, a3, a4, hK _ _ _ q⟩
  | iastore => obtain ⟨a, j, x, s, n, f, a1, a2, a3, q⟩ := hb; exact ⟨a, j, x, s, n, f, a1, a2, a3, hK _ _ _ q⟩
  | castore => obtain ⟨a, j, x, s, n, f, a1, a2, a3, q⟩ := hb; exact ⟨a, j, x, s, n, f, a1, a2, a3, hK _ _ _ q⟩
  | lastore => obtain ⟨a, j, x, s, n, f, a1, a2, a3, q⟩ := hb; exact ⟨a, j, x, s, n, f, a1, a2, a3, hK _ _ _ q⟩
  | aastore => obtain ⟨a, j, o, s, k, n, f, a1, a2, a3, a4, a5, q⟩ := hb; exact ⟨a, j, o, s, k, n, f, a1, a2, a3, a4, a5, hK _ _ _ q⟩
  | arraylength => obtain ⟨a, s, k, n, z, a1, a2, a3, q⟩ := hb; exact ⟨a, s, k, n, z, a1, a2, a3, hK _ _ _ q⟩
  | newarray t => obtain ⟨n, s, k, a1, a2, a3, a4, q⟩ := hb; exact ⟨n, s, k, a1, a2, a3, a4, hK _ _ _ q⟩
  | anewarray ix => obtain ⟨n, s, k, a1, a2, a3, a4, q⟩ := hb; exact ⟨n, s, k, a1, a2, a3, a4, hK _ _ _ q⟩
  | new ix =>
    rcases hb with ⟨ci, a, q⟩ | hb
    · exact Or.inl ⟨ci, a, hK _ _ _ q⟩
    · exact Or.inr hb
  | invokestatic ix => exact ax_call_lv hK hb
  | invokevirtual ix => exact ⟨hb.1, ax_call_lv hK hb.2⟩
  | invokespecial ix =>
    rcases hb with ⟨a1, a, s, a2, a3, q⟩ | hb
    · exact Or.inl ⟨a1, a, s, a2, a3, hK _ _ _ q⟩
    · exact Or.inr ⟨hb.1, ax_call_lv hK hb.2⟩
  | ireturn => exact hb
  | lreturn => exact hb
  | areturn => exact hb
  | return_ => exact hb
  | _ => exact hb
theorem ax_go_lv {pc : Nat} {l1 l2 : ax_L} {st : List Value} {h : ax_H} (hl : ax_lle l1 l2) (hg : ax_go C M r pc l1 st h) : ax_go C M r pc l2 st h := by
  have := hg (fun pc lv st h => ∀ l2, ax_lle lv l2 → ax_go C M r pc l2 st h) ?_
  · exact this l2 hl
  · intro pc lv st h ⟨i, nx, tg, hd, q⟩ l2 hl
    rcases q with ⟨s', hs, k⟩ | hb
    · obtain ⟨l2', e1, e2⟩ := ax_s_lv hl hs
      exact ax_go_st ⟨i, nx, tg, hd, Or.inl ⟨_, e1, k l2' e2⟩⟩
    · exact ax_go_st ⟨i, nx, tg, hd, Or.inr (ax_b_lv (lv := lv) (lv2 := l2) (fun pc st h kk => kk l2 hl) hb)⟩
end AxLv

/-! the rows, with what is to hold at the end -/
def ax_wp (C : Nat → List Value → ax_H → ax_R → Prop) (M : ax_M) (Q : ax_R → Prop) (pc : Nat) (lv : ax_L) (st : List Value) (h : ax_H) : Prop := ∃ r, ax_go C M r pc lv st h ∧ Q r
/-- a method's run, with what holds at its end -/
def ax_T (mi : Nat) (as : List Value) (h : ax_H) (Q : ax_R → Prop) : Prop := ∃ r, ax_run mi as h r ∧ Q r
theorem ax_T_of {mi : Nat} {as : List Value} {h : ax_H} {Q : ax_R → Prop} (M : ax_M) (hM : ax_pr[mi]? = some M) (hw : ax_wsum as ≤ ax_nl mi) (hg : ax_wp ax_run M Q 0 (lv_args 0 as) [] h) : ax_T mi as h Q := by
  obtain ⟨r, h1, h2⟩ := hg
  exact ⟨r, ax_run_of M hM hw h1, h2⟩
theorem ax_T_mono {mi : Nat} {as : List Value} {h : ax_H} {Q Q' : ax_R → Prop} (hq : ax_T mi as h Q) (hQ : ∀ r, Q r → Q' r) : ax_T mi as h Q' := by
  obtain ⟨r, h1, h2⟩ := hq
  exact ⟨r, h1, hQ r h2⟩
def ax_sub : ax_L → ax_L → Prop
  | [], _ => True
  | q :: l, lv => lv.lookup q.1 = some q.2 ∧ ax_sub l lv
theorem ax_sub_lk {l lv : ax_L} (h : ax_sub l lv) : ∀ k v, l.lookup k = some v → lv.lookup k = some v := by
  induction l with
  | nil => intro k v hk; simp at hk
  | cons q l ih =>
    intro k v hk
    rw [List.lookup_cons] at hk
    by_cases hq : (k == q.1) = true
    · rw [hq] at hk
      have : k = q.1 := by simpa using hq
      subst this
      have hv : q.2 = v := Option.some.inj hk
      rw [← hv]
      exact h.1
    · have hq' : (k == q.1) = false := by simpa using hq
      rw [hq'] at hk
      exact ih h.2 k v hk
section AxWp
variable {C : Nat → List Value → ax_H → ax_R → Prop} {M : ax_M} {Q : ax_R → Prop} {pc nx tg : Nat} {lv lv' : ax_L} {st st' : List Value} {h h' : ax_H}
theorem w_lv {l1 : ax_L} (k : ax_wp C M Q pc l1 st h) (hn : ax_nd l1 = true) (hs : ax_sub l1 lv) : ax_wp C M Q pc lv st h := by
  obtain ⟨r, h1, h2⟩ := k
  exact ⟨r, ax_go_lv ⟨hn, ax_sub_lk hs⟩ h1, h2⟩
theorem w_s {i : Instr} {pc' : Nat} (hd : M.2.2.1.lookup pc = some (i, nx, tg)) (hs : ax_s i nx tg lv st h = some (pc', lv', st', h')) (k : ax_wp C M Q pc' lv' st' h') : ax_wp C M Q pc lv st h := by
  obtain ⟨r, h1, h2⟩ := k
  exact ⟨r, gs hd hs h1, h2⟩
theorem w_ldc {ix : Nat} {v : Int32} (hd : M.2.2.1.lookup pc = some (.ldc ix, nx, tg)) (hv : ax_tI.lookup (ax_key M ix) = some v) (k : ax_wp C M Q nx lv (.int v :: st) h) : ax_wp C M Q pc lv st h := by
  obtain ⟨r, h1, h2⟩ := k
  exact ⟨r, g_ldc hd hv h1, h2⟩
theorem w_ldc2 {ix : Nat} {v : Int64} (hd : M.2.2.1.lookup pc = some (.ldc2_w ix, nx, tg)) (hv : ax_tL.lookup (ax_key M ix) = some v) (k : ax_wp C M Q nx lv (.long v :: st) h) : ax_wp C M Q pc lv st h := by
  obtain ⟨r, h1, h2⟩ := k
  exact ⟨r, g_ldc2 hd hv h1, h2⟩
theorem w_idiv {x y : Int32} (hd : M.2.2.1.lookup pc = some (.idiv, nx, tg)) (hy : ¬ y = 0) (k : ax_wp C M Q nx lv (.int (x / y) :: st) h) : ax_wp C M Q pc lv (.int y :: .int x :: st) h := by
  obtain ⟨r, h1, h2⟩ := k
  exact ⟨r, g_idiv hd hy h1, h2⟩
theorem w_ldiv {x y : Int64} (hd : M.2.2.1.lookup pc = some (.ldiv, nx, tg)) (hy : ¬ y = 0) (k : ax_wp C M Q nx lv (.long (x / y) :: st) h) : ax_wp C M Q pc lv (.long y :: .long x :: st) h := by
  obtain ⟨r, h1, h2⟩ := k
  exact ⟨r, g_ldiv hd hy h1, h2⟩
theorem w_lrem {x y : Int64} (hd : M.2.2.1.lookup pc = some (.lrem, nx, tg)) (hy : ¬ y = 0) (k : ax_wp C M Q nx lv (.long (x - x / y * y) :: st) h) : ax_wp C M Q pc lv (.long y :: .long x :: st) h := by
  obtain ⟨r, h1, h2⟩ := k
  exact ⟨r, g_lrem hd hy h1, h2⟩
theorem w_if2 {c : ClassFile.Cond} {o : Int} {x y : Int32} (hd : M.2.2.1.lookup pc = some (.if_icmp c o, nx, tg)) (k1 : ax_cnd c x y → ax_wp C M Q tg lv st h) (k2 : ¬ ax_cnd c x y → ax_wp C M Q nx lv st h) : ax_wp C M Q pc lv (.int y :: .int x :: st) h := by
  by_cases hc : ax_cnd c x y
  · obtain ⟨r, h1, h2⟩ := k1 hc
    exact ⟨r, g_if2 hd (fun _ => h1) (fun z => absurd hc z), h2⟩
  · obtain ⟨r, h1, h2⟩ := k2 hc
    exact ⟨r, g_if2 hd (fun z => absurd z hc) (fun _ => h1), h2⟩
theorem w_if1 {c : ClassFile.Cond} {o : Int} {x : Int32} (hd : M.2.2.1.lookup pc = some (.ifCond c o, nx, tg)) (k1 : ax_cnd c x 0 → ax_wp C M Q tg lv st h) (k2 : ¬ ax_cnd c x 0 → ax_wp C M Q nx lv st h) : ax_wp C M Q pc lv (.int x :: st) h := by
  by_cases hc : ax_cnd c x 0
  · obtain ⟨r, h1, h2⟩ := k1 hc
    exact ⟨r, g_if1 hd (fun _ => h1) (fun z => absurd hc z), h2⟩
  · obtain ⟨r, h1, h2⟩ := k2 hc
    exact ⟨r, g_if1 hd (fun z => absurd z hc) (fun _ => h1), h2⟩
theorem w_nul {o : Int} (hd : M.2.2.1.lookup pc = some (.ifnull o, nx, tg)) (k : ax_wp C M Q tg lv st h) : ax_wp C M Q pc lv (.null :: st) h := by
  obtain ⟨r, h1, h2⟩ := k
  exact ⟨r, g_nul hd h1, h2⟩
theorem w_nulR {o : Int} {a : Nat} (hd : M.2.2.1.lookup pc = some (.ifnull o, nx, tg)) (k : ax_wp C M Q nx lv st h) : ax_wp C M Q pc lv (.ref a :: st) h := by
  obtain ⟨r, h1, h2⟩ := k
  exact ⟨r, g_nulR hd h1, h2⟩
theorem w_nnl {o : Int} (hd : M.2.2.1.lookup pc = some (.ifnonnull o, nx, tg)) (k : ax_wp C M Q nx lv st h) : ax_wp C M Q pc lv (.null :: st) h := by
  obtain ⟨r, h1, h2⟩ := k
  exact ⟨r, g_nnl hd h1, h2⟩
theorem w_nnlR {o : Int} {a : Nat} (hd : M.2.2.1.lookup pc = some (.ifnonnull o, nx, tg)) (k : ax_wp C M Q tg lv st h) : ax_wp C M Q pc lv (.ref a :: st) h := by
  obtain ⟨r, h1, h2⟩ := k
  exact ⟨r, g_nnlR hd h1, h2⟩
theorem w_tsw {d lo hi : Int} {offs : Array Int} {x : Int32} {t : Nat} (hd : M.2.2.1.lookup pc = some (.tableswitch d lo hi offs, nx, tg)) (ht : ax_tsw pc d lo hi offs x = some t) (k : ax_wp C M Q t lv st h) : ax_wp C M Q pc lv (.int x :: st) h := by
  obtain ⟨r, h1, h2⟩ := k
  exact ⟨r, g_tsw hd ht h1, h2⟩
theorem w_lsw {d : Int} {ps : Array (Int × Int)} {x : Int32} {t : Nat} (hd : M.2.2.1.lookup pc = some (.lookupswitch d ps, nx, tg)) (ht : ax_to pc (Op.lookupswitch.offset ps.toList d x.toInt) = t) (k : ax_wp C M Q t lv st h) : ax_wp C M Q pc lv (.int x :: st) h := by
  obtain ⟨r, h1, h2⟩ := k
  exact ⟨r, g_lsw hd ht h1, h2⟩
theorem w_get {ix a ci j : Nat} {fs : List Value} {v : Value} (hd : M.2.2.1.lookup pc = some (.getfield ix, nx, tg)) (hf : ax_tF.lookup (ax_key M ix) = some (ci, j)) (hc : h.1[a]? = some (some (.inr (ci, fs)))) (hv : fs[j]? = some v) (k : ax_wp C M Q nx lv (v :: st) h) : ax_wp C M Q pc lv (.ref a :: st) h := by
  obtain ⟨r, h1, h2⟩ := k
  exact ⟨r, g_get hd hf hc hv h1, h2⟩
theorem w_put {H : List (Option ax_C)} {u : Nat} {ix a ci j : Nat} {fs : List Value} {v : Value} (hd : M.2.2.1.lookup pc = some (.putfield ix, nx, tg)) (hf : ax_tF.lookup (ax_key M ix) = some (ci, j)) (hc : H[a]? = some (some (.inr (ci, fs)))) (hl : j < fs.length) (hw : ax_fin ci j = false ∨ (M.2.2.2.2 = true ∧ M.1 = ci)) (hn : narrow (ax_ty ci j) v = v) (ht : fits (ax_ty ci j) v = true)
    (k : ax_wp C M Q nx lv st (H.set a (some (.inr (ci, fs.set j v))), u)) : ax_wp C M Q pc lv (v :: .ref a :: st) (H, u) := by
  obtain ⟨r, h1, h2⟩ := k
  exact ⟨r, g_put hd hf hc hl hw hn ht h1, h2⟩
theorem w_iald {a n : Nat} {i : Int32} {f : Nat → Int32} (hd : M.2.2.1.lookup pc = some (.iaload, nx, tg)) (hc : h.1[a]? = some (some (.inl (0, n, .inl f)))) (hi : vp_in i n) (k : ax_wp C M Q nx lv (.int (f i.toNatClampNeg) :: st) h) : ax_wp C M Q pc lv (.int i :: .ref a :: st) h := by
  obtain ⟨r, h1, h2⟩ := k
  exact ⟨r, g_iald hd hc hi h1, h2⟩
theorem w_sald {a n : Nat} {i : Int32} {f : Nat → Int32} (hd : M.2.2.1.lookup pc = some (.iaload, nx, tg)) (hc : h.1[a]? = some (some (.inl (9, n, .inl f)))) (hi : vp_in i n) (k : ax_wp C M Q nx lv (.int (f i.toNatClampNeg) :: st) h) : ax_wp C M Q pc lv (.int i :: .ref a :: st) h := by
  obtain ⟨r, h1, h2⟩ := k
  exact ⟨r, g_sald hd hc hi h1, h2⟩
theorem w_cald {a n : Nat} {i : Int32} {f : Nat → Int32} (hd : M.2.2.1.lookup pc = some (.caload, nx, tg)) (hc : h.1[a]? = some (some (.inl (2, n, .inl f)))) (hi : vp_in i n) (k : ax_wp C M Q nx lv (.int (f i.toNatClampNeg) :: st) h) : ax_wp C M Q pc lv (.int i :: .ref a :: st) h := by
  obtain ⟨r, h1, h2⟩ := k
  exact ⟨r, g_cald hd hc hi h1, h2⟩
theorem w_lald {a n : Nat} {i : Int32} {f : Nat → Int64} (hd : M.2.2.1.lookup pc = some (.laload, nx, tg)) (hc : h.1[a]? = some (some (.inl (1, n, .inr (.inl f))))) (hi : vp_in i n) (k : ax_wp C M Q nx lv (.long (f i.toNatClampNeg) :: st) h) : ax_wp C M Q pc lv (.int i :: .ref a :: st) h := by
  obtain ⟨r, h1, h2⟩ := k
  exact ⟨r, g_lald hd hc hi h1, h2⟩
theorem w_aald {a n q : Nat} {i : Int32} {f : Nat → Option Nat} (hd : M.2.2.1.lookup pc = some (.aaload, nx, tg)) (hc : h.1[a]? = some (some (.inl (q, n, .inr (.inr (.inr (.inr f))))))) (hq : q = 3 ∨ q = 4) (hi : vp_in i n) (k : ax_wp C M Q nx lv (va_rf (f i.toNatClampNeg) :: st) h) : ax_wp C M Q pc lv (.int i :: .ref a :: st) h := by
  obtain ⟨r, h1, h2⟩ := k
  exact ⟨r, g_aald hd hc hq hi h1, h2⟩
theorem w_iast {H : List (Option ax_C)} {u : Nat} {a n : Nat} {i x : Int32} {f : Nat → Int32} (hd : M.2.2.1.lookup pc = some (.iastore, nx, tg)) (hc : H[a]? = some (some (.inl (0, n, .inl f)))) (hi : vp_in i n) (k : ax_wp C M Q nx lv st (H.set a (some (.inl (0, n, .inl (upd f i.toNatClampNeg x)))), u)) : ax_wp C M Q pc lv (.int x :: .int i :: .ref a :: st) (H, u) := by
  obtain ⟨r, h1, h2⟩ := k
  exact ⟨r, g_iast hd hc hi h1, h2⟩
theorem w_cast {H : List (Option ax_C)} {u : Nat} {a n : Nat} {i x : Int32} {f : Nat → Int32} (hd : M.2.2.1.lookup pc = some (.castore, nx, tg)) (hc : H[a]? = some (some (.inl (2, n, .inl f)))) (hi : vp_in i n) (k : ax_wp C M Q nx lv st (H.set a (some (.inl (2, n, .inl (upd f i.toNatClampNeg (vp_nar .char x))))), u)) : ax_wp C M Q pc lv (.int x :: .int i :: .ref a :: st) (H, u) := by
  obtain ⟨r, h1, h2⟩ := k
  exact ⟨r, g_cast hd hc hi h1, h2⟩
theorem w_last {H : List (Option ax_C)} {u : Nat} {a n : Nat} {i : Int32} {x : Int64} {f : Nat → Int64} (hd : M.2.2.1.lookup pc = some (.lastore, nx, tg)) (hc : H[a]? = some (some (.inl (1, n, .inr (.inl f))))) (hi : vp_in i n) (k : ax_wp C M Q nx lv st (H.set a (some (.inl (1, n, .inr (.inl (vp_updL f i.toNatClampNeg x))))), u)) : ax_wp C M Q pc lv (.long x :: .int i :: .ref a :: st) (H, u) := by
  obtain ⟨r, h1, h2⟩ := k
  exact ⟨r, g_last hd hc hi h1, h2⟩
theorem w_aast {H : List (Option ax_C)} {u : Nat} {a n q v : Nat} {i : Int32} {f : Nat → Option Nat} {fs : List Value} (hd : M.2.2.1.lookup pc = some (.aastore, nx, tg)) (hc : H[a]? = some (some (.inl (q, n, .inr (.inr (.inr (.inr f))))))) (hq : q = 3 ∨ q = 4) (hi : vp_in i n) (hv : H[v]? = some (some (.inr (ax_cmp q, fs))))
    (k : ax_wp C M Q nx lv st (H.set a (some (.inl (q, n, .inr (.inr (.inr (.inr (va_up f i.toNatClampNeg (some v)))))))), u)) : ax_wp C M Q pc lv (.ref v :: .int i :: .ref a :: st) (H, u) := by
  obtain ⟨r, h1, h2⟩ := k
  exact ⟨r, g_aast hd hc hq hi hv h1, h2⟩
theorem w_aastN {H : List (Option ax_C)} {u : Nat} {a n q : Nat} {i : Int32} {f : Nat → Option Nat} (hd : M.2.2.1.lookup pc = some (.aastore, nx, tg)) (hc : H[a]? = some (some (.inl (q, n, .inr (.inr (.inr (.inr f))))))) (hq : q = 3 ∨ q = 4) (hi : vp_in i n)
    (k : ax_wp C M Q nx lv st (H.set a (some (.inl (q, n, .inr (.inr (.inr (.inr (va_up f i.toNatClampNeg none))))))), u)) : ax_wp C M Q pc lv (.null :: .int i :: .ref a :: st) (H, u) := by
  obtain ⟨r, h1, h2⟩ := k
  exact ⟨r, g_aastN hd hc hq hi h1, h2⟩
theorem w_alen {a q n : Nat} {z : (Nat → Int32) ⊕ (Nat → Int64) ⊕ (Nat → UInt32) ⊕ (Nat → UInt64) ⊕ (Nat → Option Nat)} (hd : M.2.2.1.lookup pc = some (.arraylength, nx, tg)) (hc : h.1[a]? = some (some (.inl (q, n, z)))) (hq : q < 5 ∨ (q = 9 ∧ a = 0)) (k : ax_wp C M Q nx lv (.int (nI n) :: st) h) : ax_wp C M Q pc lv (.ref a :: st) h := by
  obtain ⟨r, h1, h2⟩ := k
  exact ⟨r, g_alen hd hc hq h1, h2⟩
theorem w_newa {H : List (Option ax_C)} {u : Nat} {t : ArrayType} {n : Int32} {q : Nat} (hd : M.2.2.1.lookup pc = some (.newarray t, nx, tg)) (ht : ax_ak t = some q) (hn : ¬ n < 0) (hm : n.toNatClampNeg ≤ 1000000) (k : ax_wp C M Q nx lv (.ref H.length :: st) (H ++ [some (.inl (q, n.toNatClampNeg, ax_blank q))], u + n.toNatClampNeg)) : ax_wp C M Q pc lv (.int n :: st) (H, u) := by
  obtain ⟨r, h1, h2⟩ := k
  exact ⟨r, g_newa hd ht hn hm h1, h2⟩
theorem w_newq {H : List (Option ax_C)} {u : Nat} {ix : Nat} {n : Int32} {q : Nat} (hd : M.2.2.1.lookup pc = some (.anewarray ix, nx, tg)) (ht : ax_tR.lookup (ax_key M ix) = some q) (hn : ¬ n < 0) (hm : n.toNatClampNeg ≤ 1000000) (k : ax_wp C M Q nx lv (.ref H.length :: st) (H ++ [some (.inl (q, n.toNatClampNeg, ax_blank q))], u + n.toNatClampNeg)) : ax_wp C M Q pc lv (.int n :: st) (H, u) := by
  obtain ⟨r, h1, h2⟩ := k
  exact ⟨r, g_newq hd ht hn hm h1, h2⟩
theorem w_new {H : List (Option ax_C)} {u : Nat} {ix ci : Nat} (hd : M.2.2.1.lookup pc = some (.new ix, nx, tg)) (hn : ax_tN.lookup (ax_key M ix) = some ci) (k : ax_wp C M Q nx lv (.ref H.length :: st) (H ++ [some (.inr (ci, ax_dfl ci))], u + (ax_dfl ci).length)) : ax_wp C M Q pc lv st (H, u) := by
  obtain ⟨r, h1, h2⟩ := k
  exact ⟨r, g_new hd hn h1, h2⟩
theorem w_thr {H : List (Option ax_C)} {u : Nat} {ix E ik is : Nat} (hd : M.2.2.1.lookup pc = some (.new ix, nx, tg)) (hx : ax_tX.lookup (ax_key M ix) = some (E, ik)) (hh : M.2.2.2.1 = []) (h1 : M.2.2.1.lookup nx = some (.dup, nx + 1, 0)) (h2 : M.2.2.1.lookup (nx + 1) = some (.ldc is, nx + 3, 0)) (h3 : ax_key M is ∈ ax_tS) (h4 : M.2.2.1.lookup (nx + 3) = some (.invokespecial ik, nx + 6, 0)) (h5 : M.2.2.1.lookup (nx + 6) = some (.athrow, nx + 7, 0)) (hr : Q (.inr E, (H ++ [none], u + 6))) : ax_wp C M Q pc lv [] (H, u) := ⟨_, g_thr hd hx hh h1 h2 h3 h4 h5 rfl, hr⟩
theorem w_cs {ix mi n : Nat} {v : Option Value} {h1 : ax_H} (hd : M.2.2.1.lookup pc = some (.invokestatic ix, nx, tg)) (hm : ax_tM.lookup (ax_key M ix) = some (mi, n)) (hn : n ≤ st.length) (hw : ax_wsum (st.drop n) ≤ 8) (hc : C mi (st.take n).reverse h (.inl v, h1)) (k : ax_wp C M Q nx lv (v.toList ++ st.drop n) h1) : ax_wp C M Q pc lv st h := by
  obtain ⟨r, g1, g2⟩ := k
  exact ⟨r, g_cs hd hm hc hn hw g1, g2⟩
theorem w_cv {ix mi n a : Nat} {as fs : List Value} {v : Option Value} {h1 : ax_H} (hd : M.2.2.1.lookup pc = some (.invokevirtual ix, nx, tg)) (hm : ax_tM.lookup (ax_key M ix) = some (mi, n)) (ha : (st.take n).reverse = .ref a :: as) (ho : h.1[a]? = some (some (.inr (ax_rc mi, fs)))) (hn : n ≤ st.length) (hw : ax_wsum (st.drop n) ≤ 8) (hc : C mi (st.take n).reverse h (.inl v, h1)) (k : ax_wp C M Q nx lv (v.toList ++ st.drop n) h1) : ax_wp C M Q pc lv st h := by
  obtain ⟨r, g1, g2⟩ := k
  exact ⟨r, g_cv hd hm ha ho hc hn hw g1, g2⟩
theorem w_ci {ix mi n a : Nat} {as : List Value} {v : Option Value} {h1 : ax_H} (hd : M.2.2.1.lookup pc = some (.invokespecial ix, nx, tg)) (hm : ax_tM.lookup (ax_key M ix) = some (mi, n)) (ha : (st.take n).reverse = .ref a :: as) (hn : n ≤ st.length) (hw : ax_wsum (st.drop n) ≤ 8) (hc : C mi (st.take n).reverse h (.inl v, h1)) (k : ax_wp C M Q nx lv (v.toList ++ st.drop n) h1) : ax_wp C M Q pc lv st h := by
  obtain ⟨r, g1, g2⟩ := k
  exact ⟨r, g_ci hd hm ha hc hn hw g1, g2⟩
theorem w_oi {ix a : Nat} (hd : M.2.2.1.lookup pc = some (.invokespecial ix, nx, tg)) (ho : ax_key M ix ∈ ax_tO) (hw : ax_wsum st ≤ 8) (k : ax_wp C M Q nx lv st h) : ax_wp C M Q pc lv (.ref a :: st) h := by
  obtain ⟨r, g1, g2⟩ := k
  exact ⟨r, g_oi hd ho hw g1, g2⟩
theorem w_cvx {ix mi n E a : Nat} {as fs : List Value} {h1 : ax_H} (hd : M.2.2.1.lookup pc = some (.invokevirtual ix, nx, tg)) (hm : ax_tM.lookup (ax_key M ix) = some (mi, n)) (ha : (st.take n).reverse = .ref a :: as) (ho : h.1[a]? = some (some (.inr (ax_rc mi, fs)))) (hn : n ≤ st.length) (hw : ax_wsum (st.drop n) ≤ 8) (hE : E < 2) (hh : ax_hand M.1 M.2.2.2.1 pc E = none) (hc : C mi (st.take n).reverse h (.inr E, h1)) (hr : Q (.inr E, h1)) : ax_wp C M Q pc lv st h := ⟨_, g_cvx hd hm ha ho hc hn hw hE hh rfl, hr⟩
theorem w_csx {ix mi n E : Nat} {h1 : ax_H} (hd : M.2.2.1.lookup pc = some (.invokestatic ix, nx, tg)) (hm : ax_tM.lookup (ax_key M ix) = some (mi, n)) (hn : n ≤ st.length) (hw : ax_wsum (st.drop n) ≤ 8) (hE : E < 2) (hh : ax_hand M.1 M.2.2.2.1 pc E = none) (hc : C mi (st.take n).reverse h (.inr E, h1)) (hr : Q (.inr E, h1)) : ax_wp C M Q pc lv st h := ⟨_, g_csx hd hm hc hn hw hE hh rfl, hr⟩
theorem w_cvc {ix mi n E t a : Nat} {as fs : List Value} {h1 : ax_H} (hd : M.2.2.1.lookup pc = some (.invokevirtual ix, nx, tg)) (hm : ax_tM.lookup (ax_key M ix) = some (mi, n)) (ha : (st.take n).reverse = .ref a :: as) (ho : h.1[a]? = some (some (.inr (ax_rc mi, fs)))) (hn : n ≤ st.length) (hw : ax_wsum (st.drop n) ≤ 8) (hE : E < 2) (hh : ax_hand M.1 M.2.2.2.1 pc E = some t) (hc : C mi (st.take n).reverse h (.inr E, h1)) (k : ax_wp C M Q t lv [.ref (h1.1.length - 1)] h1) : ax_wp C M Q pc lv st h := by
  obtain ⟨r, g1, g2⟩ := k
  exact ⟨r, g_cvc hd hm ha ho hc hn hw hE hh g1, g2⟩
theorem w_iret {x : Int32} {rt : FieldType} (hd : M.2.2.1.lookup pc = some (.ireturn, nx, tg)) (ht : M.2.1 = some rt) (hx : narrow rt (.int x) = .int x) (hr : Q (.inl (some (.int x)), h)) : ax_wp C M Q pc lv [.int x] h := ⟨_, g_iret hd ht hx rfl, hr⟩
theorem w_lret {x : Int64} (hd : M.2.2.1.lookup pc = some (.lreturn, nx, tg)) (ht : M.2.1 = some .long) (hr : Q (.inl (some (.long x)), h)) : ax_wp C M Q pc lv [.long x] h := ⟨_, g_lret hd ht rfl, hr⟩
theorem w_aret {v : Value} {n : String} (hd : M.2.2.1.lookup pc = some (.areturn, nx, tg)) (ht : M.2.1 = some (.object n)) (hv : ax_isA v = true) (hr : Q (.inl (some v), h)) : ax_wp C M Q pc lv [v] h := ⟨_, g_aret hd ht hv rfl, hr⟩
theorem w_vret (hd : M.2.2.1.lookup pc = some (.return_, nx, tg)) (ht : M.2.1 = none) (hr : Q (.inl none, h)) : ax_wp C M Q pc lv [] h := ⟨_, g_vret hd ht rfl, hr⟩
end AxWp
section AxInc
variable {C : Nat → List Value → ax_H → ax_R → Prop} {M : ax_M} {Q : ax_R → Prop} {pc nx tg : Nat} {lv lv' : ax_L} {st st' : List Value} {h h' : ax_H}
theorem w_iadd1 {n : Nat} (hd : M.2.2.1.lookup pc = some (.iadd, nx, tg)) (k : ax_wp C M Q nx lv (.int (nI (n + 1)) :: st) h) : ax_wp C M Q pc lv (.int (Int32.ofInt 1) :: .int (nI n) :: st) h := by
  rw [nI_succ] at k
  exact w_s hd rfl k
theorem w_isub1 {n : Nat} (hd : M.2.2.1.lookup pc = some (.isub, nx, tg)) (k : ax_wp C M Q nx lv (.int (nI n) :: st) h) : ax_wp C M Q pc lv (.int (Int32.ofInt 1) :: .int (nI (n + 1)) :: st) h := by
  refine w_s hd rfl ?_
  show ax_wp C M Q nx lv (.int (nI (n + 1) - Int32.ofInt 1) :: st) h
  have e : nI (n + 1) - Int32.ofInt 1 = nI n := by
    rw [nI_succ]
    show nI n + 1 - 1 = nI n
    rw [Int32.add_sub_cancel]
  rw [e]
  exact k
theorem w_iinc1 {k0 n : Nat} (hd : M.2.2.1.lookup pc = some (.iinc k0 1, nx, tg)) (hl : lv.lookup k0 = some (.int (nI n))) (k : ax_wp C M Q nx (ax_sto1 k0 (.int (nI (n + 1))) lv) st h) : ax_wp C M Q pc lv st h := by
  refine w_s (lv' := ax_sto1 k0 (.int (nI (n + 1))) lv) (st' := st) (h' := h) (pc' := nx) hd ?_ k
  show ax_iinc k0 1 nx lv st h = _
  unfold ax_iinc
  rw [hl, nI_succ]
  rfl
end AxInc
end
section
/-! numbers: everything to Int, then omega -/
theorem q_nI (n : Nat) : (nI n).toInt = ((n : Int) + 2147483648) % 4294967296 - 2147483648 := by
  have : (nI n).toInt = Int.bmod n (2 ^ 32) := by simp [nI, Int32.toInt_ofNat]
  rw [this, Int.bmod]
  omega
theorem q_bm32 (x : Int) : Int.bmod x (2 ^ 32) = (x + 2147483648) % 4294967296 - 2147483648 := by
  rw [Int.bmod]
  omega
theorem q_bm64 (x : Int) : Int.bmod x (2 ^ 64) = (x + 9223372036854775808) % 18446744073709551616 - 9223372036854775808 := by
  rw [Int.bmod]
  omega
theorem q_add (a b : Int32) : (a + b).toInt = (a.toInt + b.toInt + 2147483648) % 4294967296 - 2147483648 := by rw [Int32.toInt_add, q_bm32]
theorem q_sub (a b : Int32) : (a - b).toInt = (a.toInt - b.toInt + 2147483648) % 4294967296 - 2147483648 := by rw [Int32.toInt_sub, q_bm32]
theorem q_mul (a b : Int32) : (a * b).toInt = (a.toInt * b.toInt + 2147483648) % 4294967296 - 2147483648 := by rw [Int32.toInt_mul, q_bm32]
theorem q_neg (a : Int32) : (-a).toInt = (-a.toInt + 2147483648) % 4294967296 - 2147483648 := by rw [Int32.toInt_neg, q_bm32]
theorem q_addL (a b : Int64) : (a + b).toInt = (a.toInt + b.toInt + 9223372036854775808) % 18446744073709551616 - 9223372036854775808 := by rw [Int64.toInt_add, q_bm64]
theorem q_subL (a b : Int64) : (a - b).toInt = (a.toInt - b.toInt + 9223372036854775808) % 18446744073709551616 - 9223372036854775808 := by rw [Int64.toInt_sub, q_bm64]
theorem q_mulL (a b : Int64) : (a * b).toInt = (a.toInt * b.toInt + 9223372036854775808) % 18446744073709551616 - 9223372036854775808 := by rw [Int64.toInt_mul, q_bm64]
theorem q_negL (a : Int64) : (-a).toInt = (-a.toInt + 9223372036854775808) % 18446744073709551616 - 9223372036854775808 := by rw [Int64.toInt_neg, q_bm64]
theorem q_i2l (a : Int32) : a.toInt64.toInt = a.toInt := Int32.toInt_toInt64 a
theorem q_l2i (a : Int64) : a.toInt32.toInt = (a.toInt + 2147483648) % 4294967296 - 2147483648 := by rw [Int64.toInt_toInt32, q_bm32]
theorem q_b (a : Int32) : -2147483648 ≤ a.toInt ∧ a.toInt < 2147483648 := ⟨a.le_toInt, a.toInt_lt⟩
theorem q_bL (a : Int64) : -9223372036854775808 ≤ a.toInt ∧ a.toInt < 9223372036854775808 := ⟨a.le_toInt, a.toInt_lt⟩
theorem q_eq {a b : Int32} : a = b ↔ a.toInt = b.toInt := Int32.toInt_inj.symm
theorem q_eqL {a b : Int64} : a = b ↔ a.toInt = b.toInt := Int64.toInt_inj.symm
theorem q_nIof {a : Int32} {n : Nat} (h : a.toInt = n) (hn : n < 2147483648) : a = nI n := by
  rw [q_eq, q_nI, h]
  omega
theorem q_succ (n : Nat) : nI n + Int32.ofInt 1 = nI (n + 1) := by rw [nI_succ]; rfl
theorem q_lg {x y : Int64} : (lg_cmp x y).toInt = if y.toInt < x.toInt then 1 else if x.toInt = y.toInt then 0 else -1 := by
  unfold lg_cmp
  simp only [gt_iff_lt, Int64.lt_iff_toInt_lt, q_eqL]
  split
  · rfl
  · split <;> rfl
theorem q_b8 (n : Int) : (Int8.ofInt n).toInt32.toInt = (n + 128) % 256 - 128 := by
  rw [Int8.toInt_toInt32, Int8.toInt_ofInt, show Int8.size = 256 from rfl, Int.bmod]
  omega
theorem q_b16 (n : Int) : (Int16.ofInt n).toInt32.toInt = (n + 32768) % 65536 - 32768 := by
  rw [Int16.toInt_toInt32, Int16.toInt_ofInt, show Int16.size = 65536 from rfl, Int.bmod]
  omega
theorem q_ofI (n : Int) : (Int32.ofInt n).toInt = (n + 2147483648) % 4294967296 - 2147483648 := by
  rw [Int32.toInt_ofInt]
  exact q_bm32 n
theorem q_lit (n : Nat) : (no_index (OfNat.ofNat n : Int32)).toInt = ((n : Int) + 2147483648) % 4294967296 - 2147483648 := q_nI n
theorem q_ofNL (n : Nat) : (Int64.ofNat n).toInt = ((n : Int) + 9223372036854775808) % 18446744073709551616 - 9223372036854775808 := by
  have : (Int64.ofNat n).toInt = Int.bmod n (2 ^ 64) := by simp [Int64.toInt_ofNat]
  rw [this, q_bm64]
theorem q_litL (n : Nat) : (no_index (OfNat.ofNat n : Int64)).toInt = ((n : Int) + 9223372036854775808) % 18446744073709551616 - 9223372036854775808 := q_ofNL n
end
section
/-! arrays by places that are numbers; calls of methods whose end is known -/
section AxW2
variable {C : Nat → List Value → ax_H → ax_R → Prop} {M : ax_M} {Q : ax_R → Prop} {pc nx tg : Nat} {lv lv' : ax_L} {st st' : List Value} {h h' : ax_H}
theorem w_in {i : Int32} {j n : Nat} (hj : i = nI j) (hl : j < n) (hn : n ≤ 1000000) : vp_in i n ∧ i.toNatClampNeg = j := by
  subst hj
  exact ⟨vp_in_nI hl (by omega), nI_clamp (by omega)⟩
theorem w_ia {a n j : Nat} {i : Int32} {f : Nat → Int32} (hd : M.2.2.1.lookup pc = some (.iaload, nx, tg)) (hc : h.1[a]? = some (some (.inl (0, n, .inl f)))) (hj : i = nI j) (hl : j < n) (hn : n ≤ 1000000) (k : ax_wp C M Q nx lv (.int (f j) :: st) h) : ax_wp C M Q pc lv (.int i :: .ref a :: st) h := by
  obtain ⟨h1, h2⟩ := w_in hj hl hn
  exact w_iald hd hc h1 (by rw [h2]; exact k)
theorem w_sa {a n j : Nat} {i : Int32} {f : Nat → Int32} (hd : M.2.2.1.lookup pc = some (.iaload, nx, tg)) (hc : h.1[a]? = some (some (.inl (9, n, .inl f)))) (hj : i = nI j) (hl : j < n) (hn : n ≤ 1000000) (k : ax_wp C M Q nx lv (.int (f j) :: st) h) : ax_wp C M Q pc lv (.int i :: .ref a :: st) h := by
  obtain ⟨h1, h2⟩ := w_in hj hl hn
  exact w_sald hd hc h1 (by rw [h2]; exact k)
theorem w_ca {a n j : Nat} {i : Int32} {f : Nat → Int32} (hd : M.2.2.1.lookup pc = some (.caload, nx, tg)) (hc : h.1[a]? = some (some (.inl (2, n, .inl f)))) (hj : i = nI j) (hl : j < n) (hn : n ≤ 1000000) (k : ax_wp C M Q nx lv (.int (f j) :: st) h) : ax_wp C M Q pc lv (.int i :: .ref a :: st) h := by
  obtain ⟨h1, h2⟩ := w_in hj hl hn
  exact w_cald hd hc h1 (by rw [h2]; exact k)
theorem w_la {a n j : Nat} {i : Int32} {f : Nat → Int64} (hd : M.2.2.1.lookup pc = some (.laload, nx, tg)) (hc : h.1[a]? = some (some (.inl (1, n, .inr (.inl f))))) (hj : i = nI j) (hl : j < n) (hn : n ≤ 1000000) (k : ax_wp C M Q nx lv (.long (f j) :: st) h) : ax_wp C M Q pc lv (.int i :: .ref a :: st) h := by
  obtain ⟨h1, h2⟩ := w_in hj hl hn
  exact w_lald hd hc h1 (by rw [h2]; exact k)
theorem w_aa {a n q j : Nat} {i : Int32} {f : Nat → Option Nat} (hd : M.2.2.1.lookup pc = some (.aaload, nx, tg)) (hc : h.1[a]? = some (some (.inl (q, n, .inr (.inr (.inr (.inr f))))))) (hq : q = 3 ∨ q = 4) (hj : i = nI j) (hl : j < n) (hn : n ≤ 1000000) (k : ax_wp C M Q nx lv (va_rf (f j) :: st) h) : ax_wp C M Q pc lv (.int i :: .ref a :: st) h := by
  obtain ⟨h1, h2⟩ := w_in hj hl hn
  exact w_aald hd hc hq h1 (by rw [h2]; exact k)
theorem w_ias {H : List (Option ax_C)} {u : Nat} {a n j : Nat} {i x : Int32} {f : Nat → Int32} (hd : M.2.2.1.lookup pc = some (.iastore, nx, tg)) (hc : H[a]? = some (some (.inl (0, n, .inl f)))) (hj : i = nI j) (hl : j < n) (hn : n ≤ 1000000) (k : ax_wp C M Q nx lv st (H.set a (some (.inl (0, n, .inl (upd f j x)))), u)) : ax_wp C M Q pc lv (.int x :: .int i :: .ref a :: st) (H, u) := by
  obtain ⟨h1, h2⟩ := w_in hj hl hn
  exact w_iast hd hc h1 (by rw [h2]; exact k)
theorem w_cas {H : List (Option ax_C)} {u : Nat} {a n j : Nat} {i x y : Int32} {f : Nat → Int32} (hd : M.2.2.1.lookup pc = some (.castore, nx, tg)) (hc : H[a]? = some (some (.inl (2, n, .inl f)))) (hj : i = nI j) (hl : j < n) (hn : n ≤ 1000000) (hy : vp_nar .char x = y) (k : ax_wp C M Q nx lv st (H.set a (some (.inl (2, n, .inl (upd f j y)))), u)) : ax_wp C M Q pc lv (.int x :: .int i :: .ref a :: st) (H, u) := by
  obtain ⟨h1, h2⟩ := w_in hj hl hn
  exact w_cast hd hc h1 (by rw [h2, hy]; exact k)
theorem w_las {H : List (Option ax_C)} {u : Nat} {a n j : Nat} {i : Int32} {x : Int64} {f : Nat → Int64} (hd : M.2.2.1.lookup pc = some (.lastore, nx, tg)) (hc : H[a]? = some (some (.inl (1, n, .inr (.inl f))))) (hj : i = nI j) (hl : j < n) (hn : n ≤ 1000000) (k : ax_wp C M Q nx lv st (H.set a (some (.inl (1, n, .inr (.inl (vp_updL f j x))))), u)) : ax_wp C M Q pc lv (.long x :: .int i :: .ref a :: st) (H, u) := by
  obtain ⟨h1, h2⟩ := w_in hj hl hn
  exact w_last hd hc h1 (by rw [h2]; exact k)
theorem w_aas {H : List (Option ax_C)} {u : Nat} {a n q v j : Nat} {i : Int32} {f : Nat → Option Nat} {fs : List Value} (hd : M.2.2.1.lookup pc = some (.aastore, nx, tg)) (hc : H[a]? = some (some (.inl (q, n, .inr (.inr (.inr (.inr f))))))) (hq : q = 3 ∨ q = 4) (hj : i = nI j) (hl : j < n) (hn : n ≤ 1000000) (hv : H[v]? = some (some (.inr (ax_cmp q, fs))))
    (k : ax_wp C M Q nx lv st (H.set a (some (.inl (q, n, .inr (.inr (.inr (.inr (va_up f j (some v)))))))), u)) : ax_wp C M Q pc lv (.ref v :: .int i :: .ref a :: st) (H, u) := by
  obtain ⟨h1, h2⟩ := w_in hj hl hn
  exact w_aast hd hc hq h1 hv (by rw [h2]; exact k)
theorem w_aasN {H : List (Option ax_C)} {u : Nat} {a n q j : Nat} {i : Int32} {f : Nat → Option Nat} (hd : M.2.2.1.lookup pc = some (.aastore, nx, tg)) (hc : H[a]? = some (some (.inl (q, n, .inr (.inr (.inr (.inr f))))))) (hq : q = 3 ∨ q = 4) (hj : i = nI j) (hl : j < n) (hn : n ≤ 1000000)
    (k : ax_wp C M Q nx lv st (H.set a (some (.inl (q, n, .inr (.inr (.inr (.inr (va_up f j none))))))), u)) : ax_wp C M Q pc lv (.null :: .int i :: .ref a :: st) (H, u) := by
  obtain ⟨h1, h2⟩ := w_in hj hl hn
  exact w_aastN hd hc hq h1 (by rw [h2]; exact k)
/-- the value on the stack is another's name -/
theorem w_eqI {x y : Int32} (e : x = y) (k : ax_wp C M Q pc lv (.int y :: st) h) : ax_wp C M Q pc lv (.int x :: st) h := e ▸ k
theorem w_eqL {x y : Int64} (e : x = y) (k : ax_wp C M Q pc lv (.long y :: st) h) : ax_wp C M Q pc lv (.long x :: st) h := e ▸ k
theorem w_post {Q' : ax_R → Prop} (k : ax_wp C M Q' pc lv st h) (hq : ∀ r, Q' r → Q r) : ax_wp C M Q pc lv st h := by
  obtain ⟨r, h1, h2⟩ := k
  exact ⟨r, h1, hq r h2⟩
end AxW2
theorem ax_run_T {mi : Nat} {as : List Value} {h : ax_H} {r : ax_R} (q : ax_T mi as h (fun r' => r' = r)) : ax_run mi as h r := by
  obtain ⟨r', h1, rfl⟩ := q
  exact h1
theorem q_bv (n : Nat) (h : n < 4294967296) : (nI n).toBitVec.toNat = n := by
  have : (nI n).toBitVec = BitVec.ofNat 32 n := by simp [nI]
  rw [this, BitVec.toNat_ofNat]
  omega
theorem q_nat {x : Int32} (h : 0 ≤ x.toInt) : ∃ n : Nat, x = nI n ∧ (n : Int) = x.toInt ∧ n < 2147483648 := by
  have hb := q_b x
  refine ⟨x.toInt.toNat, ?_, by omega, by omega⟩
  exact q_nIof (by omega) (by omega)
theorem q_char {x : Int32} (h : 0 ≤ x.toInt) (h2 : x.toInt < 128) : vp_nar .char (x.toUInt32 % 65536).toInt32 = x := by
  obtain ⟨n, rfl, h3, h4⟩ := q_nat h
  rw [pk_vc, pk_char, q_bv n (by omega)]
  congr 1
  omega
/-- booleans -/
def bI (b : Prop) [Decidable b] : Int32 := if b then 1 else 0
section
theorem bI_t {P : Prop} [Decidable P] (h : P) : bI P = Int32.ofInt 1 := by unfold bI; rw [if_pos h]; rfl
theorem bI_f {P : Prop} [Decidable P] (h : ¬ P) : bI P = Int32.ofInt 0 := by unfold bI; rw [if_neg h]; rfl
theorem c_eq0 {P : Prop} [Decidable P] : ax_cnd .eq (bI P) 0 ↔ ¬ P := by
  by_cases h : P
  · rw [bI_t h]
    exact ⟨fun z => absurd z (by simp [ax_cnd]), fun z => absurd h z⟩
  · rw [bI_f h]
    exact ⟨fun _ => h, fun _ => rfl⟩
theorem c_ne0 {P : Prop} [Decidable P] : ax_cnd .ne (bI P) 0 ↔ P := by
  by_cases h : P
  · rw [bI_t h]
    exact ⟨fun _ => h, fun _ => by simp [ax_cnd]⟩
  · rw [bI_f h]
    exact ⟨fun z => absurd rfl z, fun z => absurd z h⟩
theorem bI_nar {P : Prop} [Decidable P] : narrow .boolean (.int (bI P)) = .int (bI P) := by
  by_cases h : P
  · rw [bI_t h]; rfl
  · rw [bI_f h]; rfl
theorem bI_nn {P : Prop} [Decidable P] : ¬ ¬ P ↔ P := Decidable.not_not
end
theorem bI_iff {P R : Prop} [Decidable P] [Decidable R] (h : P ↔ R) : bI P = bI R := by
  by_cases hp : P
  · rw [bI_t hp, bI_t (h.mp hp)]
  · rw [bI_f hp, bI_f (fun z => hp (h.mpr z))]
theorem c_Llt {x y : Int64} : ax_cnd .lt (lg_cmp x y) 0 ↔ x.toInt < y.toInt := (lg_cmp_lt x y).trans Int64.lt_iff_toInt_lt
theorem c_Lle {x y : Int64} : ax_cnd .le (lg_cmp x y) 0 ↔ x.toInt ≤ y.toInt := (lg_cmp_le x y).trans Int64.le_iff_toInt_le
theorem c_Lgt {x y : Int64} : ax_cnd .gt (lg_cmp x y) 0 ↔ y.toInt < x.toInt := (lg_cmp_gt x y).trans Int64.lt_iff_toInt_lt
theorem c_Lge {x y : Int64} : ax_cnd .ge (lg_cmp x y) 0 ↔ y.toInt ≤ x.toInt := (lg_cmp_ge x y).trans Int64.le_iff_toInt_le
theorem c_Leq {x y : Int64} : ax_cnd .eq (lg_cmp x y) 0 ↔ x.toInt = y.toInt := (lg_cmp_eq x y).trans q_eqL
theorem c_Lne {x y : Int64} : ax_cnd .ne (lg_cmp x y) 0 ↔ ¬ x.toInt = y.toInt := not_congr ((lg_cmp_eq x y).trans q_eqL)
theorem bT {P : Prop} [Decidable P] {h : ax_H} (hp : P) : ((.inl (some (.int (Int32.ofInt 1))), h) : ax_R) = (.inl (some (.int (bI P))), h) := by rw [bI_t hp]
theorem bF {P : Prop} [Decidable P] {h : ax_H} (hp : ¬ P) : ((.inl (some (.int (Int32.ofInt 0))), h) : ax_R) = (.inl (some (.int (bI P))), h) := by rw [bI_f hp]
theorem q_idx (d a b : Int32) (j k n : Nat) (hj : j < 100000) (hk : k < 100000) (hd : d.toInt = n) (hn : n < 100) (ha : a.toInt = j) (hb : b.toInt = k) : d * a + b = nI (n * j + k) ∧ a * d + b = nI (n * j + k) := by
  have h1 : (n : Int) * (j : Int) < 10000000 ∧ 0 ≤ (n : Int) * (j : Int) := by
    constructor
    · have : n * j ≤ 99 * 100000 := Nat.mul_le_mul (by omega) (by omega)
      have h2 : ((n * j : Nat) : Int) = (n : Int) * j := Int.natCast_mul n j
      omega
    · have h2 : ((n * j : Nat) : Int) = (n : Int) * j := Int.natCast_mul n j
      omega
  have e1 : ((n * j + k : Nat) : Int) = (n : Int) * j + k := by
    rw [Int.natCast_add, Int.natCast_mul]
  constructor
  · rw [q_eq, q_add, q_mul, q_nI, hd, ha, hb, e1]
    generalize (n : Int) * (j : Int) = z at h1
    omega
  · rw [q_eq, q_add, q_mul, q_nI, hd, ha, hb, e1, Int.mul_comm (j : Int) (n : Int)]
    generalize (n : Int) * (j : Int) = z at h1
    omega
theorem q_nI' {n : Nat} (h : n < 2147483648) : (nI n).toInt = n := by rw [q_nI]; omega
/-! places, without Int -/
theorem nI_addR (a b : Nat) : nI a + nI b = nI (a + b) := by
  rw [q_eq, q_add, q_nI, q_nI, q_nI]
  omega
theorem nI_mulR (a b : Nat) : nI a * nI b = nI (a * b) := by
  have : nI (a * b) = nI a * nI b := by simp [nI, Int32.ofNat_mul]
  exact this.symm
theorem kb6 : (Int8.ofInt 6).toInt32 = nI 6 := by decide
theorem kb7 : (Int8.ofInt 7).toInt32 = nI 7 := by decide
theorem kb8 : (Int8.ofInt 8).toInt32 = nI 8 := by decide
theorem kb9 : (Int8.ofInt 9).toInt32 = nI 9 := by decide
theorem kb16 : (Int8.ofInt 16).toInt32 = nI 16 := by decide
theorem ki0 : Int32.ofInt 0 = nI 0 := by decide
theorem ki1 : Int32.ofInt 1 = nI 1 := by decide
theorem ki2 : Int32.ofInt 2 = nI 2 := by decide
theorem ki3 : Int32.ofInt 3 = nI 3 := by decide
theorem ki4 : Int32.ofInt 4 = nI 4 := by decide
theorem ki5 : Int32.ofInt 5 = nI 5 := by decide
theorem c_lt0 {x : Int32} : ax_cnd .lt x 0 ↔ x.toInt < 0 := Int32.lt_iff_toInt_lt
theorem c_ge0 {x : Int32} : ax_cnd .ge x 0 ↔ 0 ≤ x.toInt := Int32.le_iff_toInt_le
theorem cn_ge {a b : Nat} (ha : a < 2147483648) (hb : b < 2147483648) : ax_cnd .ge (nI a) (nI b) ↔ b ≤ a := by
  refine Int32.le_iff_toInt_le.trans ?_
  rw [q_nI' ha, q_nI' hb]
  omega
theorem cn_lt {a b : Nat} (ha : a < 2147483648) (hb : b < 2147483648) : ax_cnd .lt (nI a) (nI b) ↔ a < b := by
  refine Int32.lt_iff_toInt_lt.trans ?_
  rw [q_nI' ha, q_nI' hb]
  omega
theorem cn_eq {a b : Nat} (ha : a < 2147483648) (hb : b < 2147483648) : ax_cnd .eq (nI a) (nI b) ↔ a = b := by
  refine q_eq.trans ?_
  rw [q_nI' ha, q_nI' hb]
  omega
theorem cn_ne {a b : Nat} (ha : a < 2147483648) (hb : b < 2147483648) : ax_cnd .ne (nI a) (nI b) ↔ ¬ a = b := not_congr (cn_eq ha hb)
end
section
/-! the class's methods that look at nobody's offer -/
section CA
variable {L : Nat} {xs : Nat → Int32} {c : ax_St} {m : ax_Mo} {o : Nat → Int64} {pool : List (Option ax_C)} {u : Nat} {h : ax_H}
theorem r_noLayer (x : Int32) : ax_run m_ML_isNoLayer [.int x] h (.inl (some (.int (bI (¬ (0 ≤ x.toInt ∧ x.toInt < 8))))), h) := by
  (refine ax_run_T (ax_T_of M_ML_isNoLayer rfl (Nat.le_of_ble_eq_true rfl) ?_))
  (repeat (first | refine w_iadd1 rfl ?_ | refine w_isub1 rfl ?_ | refine w_iinc1 rfl rfl ?_ | refine w_s rfl rfl ?_ | refine w_get rfl rfl rfl rfl ?_ | refine w_nnl rfl ?_ | refine w_nnlR rfl ?_ | refine w_nul rfl ?_ | refine w_nulR rfl ?_ | refine w_ldc rfl rfl ?_ | refine w_ldc2 rfl rfl ?_ | refine w_put rfl rfl rfl (Nat.le_of_ble_eq_true rfl) (Or.inl rfl) rfl rfl ?_)); (first | refine w_if2 rfl (fun _ => ?_) (fun _ => ?_) | refine w_if1 rfl (fun _ => ?_) (fun _ => ?_)) <;> (repeat (first | refine w_iadd1 rfl ?_ | refine w_isub1 rfl ?_ | refine w_iinc1 rfl rfl ?_ | refine w_s rfl rfl ?_ | refine w_get rfl rfl rfl rfl ?_ | refine w_nnl rfl ?_ | refine w_nnlR rfl ?_ | refine w_nul rfl ?_ | refine w_nulR rfl ?_ | refine w_ldc rfl rfl ?_ | refine w_ldc2 rfl rfl ?_ | refine w_put rfl rfl rfl (Nat.le_of_ble_eq_true rfl) (Or.inl rfl) rfl rfl ?_))
  · (refine w_iret rfl rfl rfl ?_); (first | exact bT (by (((try simp only [c_eq0, c_ne0, c_Llt, c_Lle, c_Lgt, c_Lge, c_Leq, c_Lne] at *); try simp only [ax_cnd, vp_in_iff, Int32.lt_iff_toInt_lt, Int32.le_iff_toInt_le, Int64.lt_iff_toInt_lt, Int64.le_iff_toInt_le, q_eq, q_eqL, q_lg, q_nI, q_add, q_sub, q_mul, q_neg, q_addL, q_subL, q_mulL, q_negL, q_i2l, q_l2i, q_b8, q_b16, q_ofI, q_lit, q_ofNL, q_litL, ne_eq, gt_iff_lt, ge_iff_le] at *) <;> omega)) | exact bF (by (((try simp only [c_eq0, c_ne0, c_Llt, c_Lle, c_Lgt, c_Lge, c_Leq, c_Lne] at *); try simp only [ax_cnd, vp_in_iff, Int32.lt_iff_toInt_lt, Int32.le_iff_toInt_le, Int64.lt_iff_toInt_lt, Int64.le_iff_toInt_le, q_eq, q_eqL, q_lg, q_nI, q_add, q_sub, q_mul, q_neg, q_addL, q_subL, q_mulL, q_negL, q_i2l, q_l2i, q_b8, q_b16, q_ofI, q_lit, q_ofNL, q_litL, ne_eq, gt_iff_lt, ge_iff_le] at *) <;> omega)) | (exfalso; (((try simp only [c_eq0, c_ne0, c_Llt, c_Lle, c_Lgt, c_Lge, c_Leq, c_Lne] at *); try simp only [ax_cnd, vp_in_iff, Int32.lt_iff_toInt_lt, Int32.le_iff_toInt_le, Int64.lt_iff_toInt_lt, Int64.le_iff_toInt_le, q_eq, q_eqL, q_lg, q_nI, q_add, q_sub, q_mul, q_neg, q_addL, q_subL, q_mulL, q_negL, q_i2l, q_l2i, q_b8, q_b16, q_ofI, q_lit, q_ofNL, q_litL, ne_eq, gt_iff_lt, ge_iff_le] at *) <;> omega)))
  · (first | refine w_if2 rfl (fun _ => ?_) (fun _ => ?_) | refine w_if1 rfl (fun _ => ?_) (fun _ => ?_)) <;> (repeat (first | refine w_iadd1 rfl ?_ | refine w_isub1 rfl ?_ | refine w_iinc1 rfl rfl ?_ | refine w_s rfl rfl ?_ | refine w_get rfl rfl rfl rfl ?_ | refine w_nnl rfl ?_ | refine w_nnlR rfl ?_ | refine w_nul rfl ?_ | refine w_nulR rfl ?_ | refine w_ldc rfl rfl ?_ | refine w_ldc2 rfl rfl ?_ | refine w_put rfl rfl rfl (Nat.le_of_ble_eq_true rfl) (Or.inl rfl) rfl rfl ?_)) <;> (refine w_iret rfl rfl rfl ?_) <;> (first | exact bT (by (((try simp only [c_eq0, c_ne0, c_Llt, c_Lle, c_Lgt, c_Lge, c_Leq, c_Lne] at *); try simp only [ax_cnd, vp_in_iff, Int32.lt_iff_toInt_lt, Int32.le_iff_toInt_le, Int64.lt_iff_toInt_lt, Int64.le_iff_toInt_le, q_eq, q_eqL, q_lg, q_nI, q_add, q_sub, q_mul, q_neg, q_addL, q_subL, q_mulL, q_negL, q_i2l, q_l2i, q_b8, q_b16, q_ofI, q_lit, q_ofNL, q_litL, ne_eq, gt_iff_lt, ge_iff_le] at *) <;> omega)) | exact bF (by (((try simp only [c_eq0, c_ne0, c_Llt, c_Lle, c_Lgt, c_Lge, c_Leq, c_Lne] at *); try simp only [ax_cnd, vp_in_iff, Int32.lt_iff_toInt_lt, Int32.le_iff_toInt_le, Int64.lt_iff_toInt_lt, Int64.le_iff_toInt_le, q_eq, q_eqL, q_lg, q_nI, q_add, q_sub, q_mul, q_neg, q_addL, q_subL, q_mulL, q_negL, q_i2l, q_l2i, q_b8, q_b16, q_ofI, q_lit, q_ofNL, q_litL, ne_eq, gt_iff_lt, ge_iff_le] at *) <;> omega)) | (exfalso; (((try simp only [c_eq0, c_ne0, c_Llt, c_Lle, c_Lgt, c_Lge, c_Leq, c_Lne] at *); try simp only [ax_cnd, vp_in_iff, Int32.lt_iff_toInt_lt, Int32.le_iff_toInt_le, Int64.lt_iff_toInt_lt, Int64.le_iff_toInt_le, q_eq, q_eqL, q_lg, q_nI, q_add, q_sub, q_mul, q_neg, q_addL, q_subL, q_mulL, q_negL, q_i2l, q_l2i, q_b8, q_b16, q_ofI, q_lit, q_ofNL, q_litL, ne_eq, gt_iff_lt, ge_iff_le] at *) <;> omega)))
theorem r_noCell (x : Int32) : ax_run m_Ce_isNoCell [.int x] h (.inl (some (.int (bI (¬ (0 ≤ x.toInt ∧ x.toInt < 16))))), h) := by
  (refine ax_run_T (ax_T_of M_Ce_isNoCell rfl (Nat.le_of_ble_eq_true rfl) ?_))
  (repeat (first | refine w_iadd1 rfl ?_ | refine w_isub1 rfl ?_ | refine w_iinc1 rfl rfl ?_ | refine w_s rfl rfl ?_ | refine w_get rfl rfl rfl rfl ?_ | refine w_nnl rfl ?_ | refine w_nnlR rfl ?_ | refine w_nul rfl ?_ | refine w_nulR rfl ?_ | refine w_ldc rfl rfl ?_ | refine w_ldc2 rfl rfl ?_ | refine w_put rfl rfl rfl (Nat.le_of_ble_eq_true rfl) (Or.inl rfl) rfl rfl ?_)); (first | refine w_if2 rfl (fun _ => ?_) (fun _ => ?_) | refine w_if1 rfl (fun _ => ?_) (fun _ => ?_)) <;> (repeat (first | refine w_iadd1 rfl ?_ | refine w_isub1 rfl ?_ | refine w_iinc1 rfl rfl ?_ | refine w_s rfl rfl ?_ | refine w_get rfl rfl rfl rfl ?_ | refine w_nnl rfl ?_ | refine w_nnlR rfl ?_ | refine w_nul rfl ?_ | refine w_nulR rfl ?_ | refine w_ldc rfl rfl ?_ | refine w_ldc2 rfl rfl ?_ | refine w_put rfl rfl rfl (Nat.le_of_ble_eq_true rfl) (Or.inl rfl) rfl rfl ?_))
  · (refine w_iret rfl rfl rfl ?_); (first | exact bT (by (((try simp only [c_eq0, c_ne0, c_Llt, c_Lle, c_Lgt, c_Lge, c_Leq, c_Lne] at *); try simp only [ax_cnd, vp_in_iff, Int32.lt_iff_toInt_lt, Int32.le_iff_toInt_le, Int64.lt_iff_toInt_lt, Int64.le_iff_toInt_le, q_eq, q_eqL, q_lg, q_nI, q_add, q_sub, q_mul, q_neg, q_addL, q_subL, q_mulL, q_negL, q_i2l, q_l2i, q_b8, q_b16, q_ofI, q_lit, q_ofNL, q_litL, ne_eq, gt_iff_lt, ge_iff_le] at *) <;> omega)) | exact bF (by (((try simp only [c_eq0, c_ne0, c_Llt, c_Lle, c_Lgt, c_Lge, c_Leq, c_Lne] at *); try simp only [ax_cnd, vp_in_iff, Int32.lt_iff_toInt_lt, Int32.le_iff_toInt_le, Int64.lt_iff_toInt_lt, Int64.le_iff_toInt_le, q_eq, q_eqL, q_lg, q_nI, q_add, q_sub, q_mul, q_neg, q_addL, q_subL, q_mulL, q_negL, q_i2l, q_l2i, q_b8, q_b16, q_ofI, q_lit, q_ofNL, q_litL, ne_eq, gt_iff_lt, ge_iff_le] at *) <;> omega)) | (exfalso; (((try simp only [c_eq0, c_ne0, c_Llt, c_Lle, c_Lgt, c_Lge, c_Leq, c_Lne] at *); try simp only [ax_cnd, vp_in_iff, Int32.lt_iff_toInt_lt, Int32.le_iff_toInt_le, Int64.lt_iff_toInt_lt, Int64.le_iff_toInt_le, q_eq, q_eqL, q_lg, q_nI, q_add, q_sub, q_mul, q_neg, q_addL, q_subL, q_mulL, q_negL, q_i2l, q_l2i, q_b8, q_b16, q_ofI, q_lit, q_ofNL, q_litL, ne_eq, gt_iff_lt, ge_iff_le] at *) <;> omega)))
  · (first | refine w_if2 rfl (fun _ => ?_) (fun _ => ?_) | refine w_if1 rfl (fun _ => ?_) (fun _ => ?_)) <;> (repeat (first | refine w_iadd1 rfl ?_ | refine w_isub1 rfl ?_ | refine w_iinc1 rfl rfl ?_ | refine w_s rfl rfl ?_ | refine w_get rfl rfl rfl rfl ?_ | refine w_nnl rfl ?_ | refine w_nnlR rfl ?_ | refine w_nul rfl ?_ | refine w_nulR rfl ?_ | refine w_ldc rfl rfl ?_ | refine w_ldc2 rfl rfl ?_ | refine w_put rfl rfl rfl (Nat.le_of_ble_eq_true rfl) (Or.inl rfl) rfl rfl ?_)) <;> (refine w_iret rfl rfl rfl ?_) <;> (first | exact bT (by (((try simp only [c_eq0, c_ne0, c_Llt, c_Lle, c_Lgt, c_Lge, c_Leq, c_Lne] at *); try simp only [ax_cnd, vp_in_iff, Int32.lt_iff_toInt_lt, Int32.le_iff_toInt_le, Int64.lt_iff_toInt_lt, Int64.le_iff_toInt_le, q_eq, q_eqL, q_lg, q_nI, q_add, q_sub, q_mul, q_neg, q_addL, q_subL, q_mulL, q_negL, q_i2l, q_l2i, q_b8, q_b16, q_ofI, q_lit, q_ofNL, q_litL, ne_eq, gt_iff_lt, ge_iff_le] at *) <;> omega)) | exact bF (by (((try simp only [c_eq0, c_ne0, c_Llt, c_Lle, c_Lgt, c_Lge, c_Leq, c_Lne] at *); try simp only [ax_cnd, vp_in_iff, Int32.lt_iff_toInt_lt, Int32.le_iff_toInt_le, Int64.lt_iff_toInt_lt, Int64.le_iff_toInt_le, q_eq, q_eqL, q_lg, q_nI, q_add, q_sub, q_mul, q_neg, q_addL, q_subL, q_mulL, q_negL, q_i2l, q_l2i, q_b8, q_b16, q_ofI, q_lit, q_ofNL, q_litL, ne_eq, gt_iff_lt, ge_iff_le] at *) <;> omega)) | (exfalso; (((try simp only [c_eq0, c_ne0, c_Llt, c_Lle, c_Lgt, c_Lge, c_Leq, c_Lne] at *); try simp only [ax_cnd, vp_in_iff, Int32.lt_iff_toInt_lt, Int32.le_iff_toInt_le, Int64.lt_iff_toInt_lt, Int64.le_iff_toInt_le, q_eq, q_eqL, q_lg, q_nI, q_add, q_sub, q_mul, q_neg, q_addL, q_subL, q_mulL, q_negL, q_i2l, q_l2i, q_b8, q_b16, q_ofI, q_lit, q_ofNL, q_litL, ne_eq, gt_iff_lt, ge_iff_le] at *) <;> omega)))
theorem r_Bd_hasNo (x : Int32) (hn : c.bn ≤ 60) : ax_run m_Bd_hasNo [.ref 5, .int x] (ax_hp L xs c m o pool, u) (.inl (some (.int (bI (¬ (0 ≤ x.toInt ∧ x.toInt < c.bn))))), (ax_hp L xs c m o pool, u)) := by
  (refine ax_run_T (ax_T_of M_Bd_hasNo rfl (Nat.le_of_ble_eq_true rfl) ?_))
  (repeat (first | refine w_iadd1 rfl ?_ | refine w_isub1 rfl ?_ | refine w_iinc1 rfl rfl ?_ | refine w_s rfl rfl ?_ | refine w_get rfl rfl rfl rfl ?_ | refine w_nnl rfl ?_ | refine w_nnlR rfl ?_ | refine w_nul rfl ?_ | refine w_nulR rfl ?_ | refine w_ldc rfl rfl ?_ | refine w_ldc2 rfl rfl ?_ | refine w_put rfl rfl rfl (Nat.le_of_ble_eq_true rfl) (Or.inl rfl) rfl rfl ?_)); (first | refine w_if2 rfl (fun _ => ?_) (fun _ => ?_) | refine w_if1 rfl (fun _ => ?_) (fun _ => ?_)) <;> (repeat (first | refine w_iadd1 rfl ?_ | refine w_isub1 rfl ?_ | refine w_iinc1 rfl rfl ?_ | refine w_s rfl rfl ?_ | refine w_get rfl rfl rfl rfl ?_ | refine w_nnl rfl ?_ | refine w_nnlR rfl ?_ | refine w_nul rfl ?_ | refine w_nulR rfl ?_ | refine w_ldc rfl rfl ?_ | refine w_ldc2 rfl rfl ?_ | refine w_put rfl rfl rfl (Nat.le_of_ble_eq_true rfl) (Or.inl rfl) rfl rfl ?_))
  · (refine w_iret rfl rfl rfl ?_); (first | exact bT (by (((try simp only [c_eq0, c_ne0, c_Llt, c_Lle, c_Lgt, c_Lge, c_Leq, c_Lne] at *); try simp only [ax_cnd, vp_in_iff, Int32.lt_iff_toInt_lt, Int32.le_iff_toInt_le, Int64.lt_iff_toInt_lt, Int64.le_iff_toInt_le, q_eq, q_eqL, q_lg, q_nI, q_add, q_sub, q_mul, q_neg, q_addL, q_subL, q_mulL, q_negL, q_i2l, q_l2i, q_b8, q_b16, q_ofI, q_lit, q_ofNL, q_litL, ne_eq, gt_iff_lt, ge_iff_le] at *) <;> omega)) | exact bF (by (((try simp only [c_eq0, c_ne0, c_Llt, c_Lle, c_Lgt, c_Lge, c_Leq, c_Lne] at *); try simp only [ax_cnd, vp_in_iff, Int32.lt_iff_toInt_lt, Int32.le_iff_toInt_le, Int64.lt_iff_toInt_lt, Int64.le_iff_toInt_le, q_eq, q_eqL, q_lg, q_nI, q_add, q_sub, q_mul, q_neg, q_addL, q_subL, q_mulL, q_negL, q_i2l, q_l2i, q_b8, q_b16, q_ofI, q_lit, q_ofNL, q_litL, ne_eq, gt_iff_lt, ge_iff_le] at *) <;> omega)) | (exfalso; (((try simp only [c_eq0, c_ne0, c_Llt, c_Lle, c_Lgt, c_Lge, c_Leq, c_Lne] at *); try simp only [ax_cnd, vp_in_iff, Int32.lt_iff_toInt_lt, Int32.le_iff_toInt_le, Int64.lt_iff_toInt_lt, Int64.le_iff_toInt_le, q_eq, q_eqL, q_lg, q_nI, q_add, q_sub, q_mul, q_neg, q_addL, q_subL, q_mulL, q_negL, q_i2l, q_l2i, q_b8, q_b16, q_ofI, q_lit, q_ofNL, q_litL, ne_eq, gt_iff_lt, ge_iff_le] at *) <;> omega)))
  · (first | refine w_if2 rfl (fun _ => ?_) (fun _ => ?_) | refine w_if1 rfl (fun _ => ?_) (fun _ => ?_)) <;> (repeat (first | refine w_iadd1 rfl ?_ | refine w_isub1 rfl ?_ | refine w_iinc1 rfl rfl ?_ | refine w_s rfl rfl ?_ | refine w_get rfl rfl rfl rfl ?_ | refine w_nnl rfl ?_ | refine w_nnlR rfl ?_ | refine w_nul rfl ?_ | refine w_nulR rfl ?_ | refine w_ldc rfl rfl ?_ | refine w_ldc2 rfl rfl ?_ | refine w_put rfl rfl rfl (Nat.le_of_ble_eq_true rfl) (Or.inl rfl) rfl rfl ?_)) <;> (refine w_iret rfl rfl rfl ?_) <;> (first | exact bT (by (((try simp only [c_eq0, c_ne0, c_Llt, c_Lle, c_Lgt, c_Lge, c_Leq, c_Lne] at *); try simp only [ax_cnd, vp_in_iff, Int32.lt_iff_toInt_lt, Int32.le_iff_toInt_le, Int64.lt_iff_toInt_lt, Int64.le_iff_toInt_le, q_eq, q_eqL, q_lg, q_nI, q_add, q_sub, q_mul, q_neg, q_addL, q_subL, q_mulL, q_negL, q_i2l, q_l2i, q_b8, q_b16, q_ofI, q_lit, q_ofNL, q_litL, ne_eq, gt_iff_lt, ge_iff_le] at *) <;> omega)) | exact bF (by (((try simp only [c_eq0, c_ne0, c_Llt, c_Lle, c_Lgt, c_Lge, c_Leq, c_Lne] at *); try simp only [ax_cnd, vp_in_iff, Int32.lt_iff_toInt_lt, Int32.le_iff_toInt_le, Int64.lt_iff_toInt_lt, Int64.le_iff_toInt_le, q_eq, q_eqL, q_lg, q_nI, q_add, q_sub, q_mul, q_neg, q_addL, q_subL, q_mulL, q_negL, q_i2l, q_l2i, q_b8, q_b16, q_ofI, q_lit, q_ofNL, q_litL, ne_eq, gt_iff_lt, ge_iff_le] at *) <;> omega)) | (exfalso; (((try simp only [c_eq0, c_ne0, c_Llt, c_Lle, c_Lgt, c_Lge, c_Leq, c_Lne] at *); try simp only [ax_cnd, vp_in_iff, Int32.lt_iff_toInt_lt, Int32.le_iff_toInt_le, Int64.lt_iff_toInt_lt, Int64.le_iff_toInt_le, q_eq, q_eqL, q_lg, q_nI, q_add, q_sub, q_mul, q_neg, q_addL, q_subL, q_mulL, q_negL, q_i2l, q_l2i, q_b8, q_b16, q_ofI, q_lit, q_ofNL, q_litL, ne_eq, gt_iff_lt, ge_iff_le] at *) <;> omega)))
theorem r_Or_hasNo (x : Int32) (hn : c.on ≤ 20) : ax_run m_Or_hasNo [.ref 18, .int x] (ax_hp L xs c m o pool, u) (.inl (some (.int (bI (¬ (0 ≤ x.toInt ∧ x.toInt < c.on))))), (ax_hp L xs c m o pool, u)) := by
  (refine ax_run_T (ax_T_of M_Or_hasNo rfl (Nat.le_of_ble_eq_true rfl) ?_))
  (repeat (first | refine w_iadd1 rfl ?_ | refine w_isub1 rfl ?_ | refine w_iinc1 rfl rfl ?_ | refine w_s rfl rfl ?_ | refine w_get rfl rfl rfl rfl ?_ | refine w_nnl rfl ?_ | refine w_nnlR rfl ?_ | refine w_nul rfl ?_ | refine w_nulR rfl ?_ | refine w_ldc rfl rfl ?_ | refine w_ldc2 rfl rfl ?_ | refine w_put rfl rfl rfl (Nat.le_of_ble_eq_true rfl) (Or.inl rfl) rfl rfl ?_)); (first | refine w_if2 rfl (fun _ => ?_) (fun _ => ?_) | refine w_if1 rfl (fun _ => ?_) (fun _ => ?_)) <;> (repeat (first | refine w_iadd1 rfl ?_ | refine w_isub1 rfl ?_ | refine w_iinc1 rfl rfl ?_ | refine w_s rfl rfl ?_ | refine w_get rfl rfl rfl rfl ?_ | refine w_nnl rfl ?_ | refine w_nnlR rfl ?_ | refine w_nul rfl ?_ | refine w_nulR rfl ?_ | refine w_ldc rfl rfl ?_ | refine w_ldc2 rfl rfl ?_ | refine w_put rfl rfl rfl (Nat.le_of_ble_eq_true rfl) (Or.inl rfl) rfl rfl ?_))
  · (refine w_iret rfl rfl rfl ?_); (first | exact bT (by (((try simp only [c_eq0, c_ne0, c_Llt, c_Lle, c_Lgt, c_Lge, c_Leq, c_Lne] at *); try simp only [ax_cnd, vp_in_iff, Int32.lt_iff_toInt_lt, Int32.le_iff_toInt_le, Int64.lt_iff_toInt_lt, Int64.le_iff_toInt_le, q_eq, q_eqL, q_lg, q_nI, q_add, q_sub, q_mul, q_neg, q_addL, q_subL, q_mulL, q_negL, q_i2l, q_l2i, q_b8, q_b16, q_ofI, q_lit, q_ofNL, q_litL, ne_eq, gt_iff_lt, ge_iff_le] at *) <;> omega)) | exact bF (by (((try simp only [c_eq0, c_ne0, c_Llt, c_Lle, c_Lgt, c_Lge, c_Leq, c_Lne] at *); try simp only [ax_cnd, vp_in_iff, Int32.lt_iff_toInt_lt, Int32.le_iff_toInt_le, Int64.lt_iff_toInt_lt, Int64.le_iff_toInt_le, q_eq, q_eqL, q_lg, q_nI, q_add, q_sub, q_mul, q_neg, q_addL, q_subL, q_mulL, q_negL, q_i2l, q_l2i, q_b8, q_b16, q_ofI, q_lit, q_ofNL, q_litL, ne_eq, gt_iff_lt, ge_iff_le] at *) <;> omega)) | (exfalso; (((try simp only [c_eq0, c_ne0, c_Llt, c_Lle, c_Lgt, c_Lge, c_Leq, c_Lne] at *); try simp only [ax_cnd, vp_in_iff, Int32.lt_iff_toInt_lt, Int32.le_iff_toInt_le, Int64.lt_iff_toInt_lt, Int64.le_iff_toInt_le, q_eq, q_eqL, q_lg, q_nI, q_add, q_sub, q_mul, q_neg, q_addL, q_subL, q_mulL, q_negL, q_i2l, q_l2i, q_b8, q_b16, q_ofI, q_lit, q_ofNL, q_litL, ne_eq, gt_iff_lt, ge_iff_le] at *) <;> omega)))
  · (first | refine w_if2 rfl (fun _ => ?_) (fun _ => ?_) | refine w_if1 rfl (fun _ => ?_) (fun _ => ?_)) <;> (repeat (first | refine w_iadd1 rfl ?_ | refine w_isub1 rfl ?_ | refine w_iinc1 rfl rfl ?_ | refine w_s rfl rfl ?_ | refine w_get rfl rfl rfl rfl ?_ | refine w_nnl rfl ?_ | refine w_nnlR rfl ?_ | refine w_nul rfl ?_ | refine w_nulR rfl ?_ | refine w_ldc rfl rfl ?_ | refine w_ldc2 rfl rfl ?_ | refine w_put rfl rfl rfl (Nat.le_of_ble_eq_true rfl) (Or.inl rfl) rfl rfl ?_)) <;> (refine w_iret rfl rfl rfl ?_) <;> (first | exact bT (by (((try simp only [c_eq0, c_ne0, c_Llt, c_Lle, c_Lgt, c_Lge, c_Leq, c_Lne] at *); try simp only [ax_cnd, vp_in_iff, Int32.lt_iff_toInt_lt, Int32.le_iff_toInt_le, Int64.lt_iff_toInt_lt, Int64.le_iff_toInt_le, q_eq, q_eqL, q_lg, q_nI, q_add, q_sub, q_mul, q_neg, q_addL, q_subL, q_mulL, q_negL, q_i2l, q_l2i, q_b8, q_b16, q_ofI, q_lit, q_ofNL, q_litL, ne_eq, gt_iff_lt, ge_iff_le] at *) <;> omega)) | exact bF (by (((try simp only [c_eq0, c_ne0, c_Llt, c_Lle, c_Lgt, c_Lge, c_Leq, c_Lne] at *); try simp only [ax_cnd, vp_in_iff, Int32.lt_iff_toInt_lt, Int32.le_iff_toInt_le, Int64.lt_iff_toInt_lt, Int64.le_iff_toInt_le, q_eq, q_eqL, q_lg, q_nI, q_add, q_sub, q_mul, q_neg, q_addL, q_subL, q_mulL, q_negL, q_i2l, q_l2i, q_b8, q_b16, q_ofI, q_lit, q_ofNL, q_litL, ne_eq, gt_iff_lt, ge_iff_le] at *) <;> omega)) | (exfalso; (((try simp only [c_eq0, c_ne0, c_Llt, c_Lle, c_Lgt, c_Lge, c_Leq, c_Lne] at *); try simp only [ax_cnd, vp_in_iff, Int32.lt_iff_toInt_lt, Int32.le_iff_toInt_le, Int64.lt_iff_toInt_lt, Int64.le_iff_toInt_le, q_eq, q_eqL, q_lg, q_nI, q_add, q_sub, q_mul, q_neg, q_addL, q_subL, q_mulL, q_negL, q_i2l, q_l2i, q_b8, q_b16, q_ofI, q_lit, q_ofNL, q_litL, ne_eq, gt_iff_lt, ge_iff_le] at *) <;> omega)))
theorem r_Tx_add0 (x : Int32) (hn : c.tl ≤ 400) (hx : x.toInt < 32 ∨ 126 < x.toInt ∨ c.tl = 400) : ax_run m_Tx_add [.ref 2, .int x] (ax_hp L xs c m o pool, u) (.inl (some (.int 0)), (ax_hp L xs c m o pool, u)) := by
  (refine ax_run_T (ax_T_of M_Tx_add rfl (Nat.le_of_ble_eq_true rfl) ?_))
  (repeat (first | refine w_iadd1 rfl ?_ | refine w_isub1 rfl ?_ | refine w_iinc1 rfl rfl ?_ | refine w_s rfl rfl ?_ | refine w_get rfl rfl rfl rfl ?_ | refine w_nnl rfl ?_ | refine w_nnlR rfl ?_ | refine w_nul rfl ?_ | refine w_nulR rfl ?_ | refine w_ldc rfl rfl ?_ | refine w_ldc2 rfl rfl ?_ | refine w_put rfl rfl rfl (Nat.le_of_ble_eq_true rfl) (Or.inl rfl) rfl rfl ?_)); (first | refine w_if2 rfl (fun _ => ?_) (fun _ => ?_) | refine w_if1 rfl (fun _ => ?_) (fun _ => ?_)) <;> (repeat (first | refine w_iadd1 rfl ?_ | refine w_isub1 rfl ?_ | refine w_iinc1 rfl rfl ?_ | refine w_s rfl rfl ?_ | refine w_get rfl rfl rfl rfl ?_ | refine w_nnl rfl ?_ | refine w_nnlR rfl ?_ | refine w_nul rfl ?_ | refine w_nulR rfl ?_ | refine w_ldc rfl rfl ?_ | refine w_ldc2 rfl rfl ?_ | refine w_put rfl rfl rfl (Nat.le_of_ble_eq_true rfl) (Or.inl rfl) rfl rfl ?_))
  · (refine w_iret rfl rfl rfl ?_); rfl
  · (first | refine w_if2 rfl (fun _ => ?_) (fun _ => ?_) | refine w_if1 rfl (fun _ => ?_) (fun _ => ?_)) <;> (repeat (first | refine w_iadd1 rfl ?_ | refine w_isub1 rfl ?_ | refine w_iinc1 rfl rfl ?_ | refine w_s rfl rfl ?_ | refine w_get rfl rfl rfl rfl ?_ | refine w_nnl rfl ?_ | refine w_nnlR rfl ?_ | refine w_nul rfl ?_ | refine w_nulR rfl ?_ | refine w_ldc rfl rfl ?_ | refine w_ldc2 rfl rfl ?_ | refine w_put rfl rfl rfl (Nat.le_of_ble_eq_true rfl) (Or.inl rfl) rfl rfl ?_))
    · (refine w_iret rfl rfl rfl ?_); rfl
    · (first | refine w_if2 rfl (fun _ => ?_) (fun _ => ?_) | refine w_if1 rfl (fun _ => ?_) (fun _ => ?_)) <;> (repeat (first | refine w_iadd1 rfl ?_ | refine w_isub1 rfl ?_ | refine w_iinc1 rfl rfl ?_ | refine w_s rfl rfl ?_ | refine w_get rfl rfl rfl rfl ?_ | refine w_nnl rfl ?_ | refine w_nnlR rfl ?_ | refine w_nul rfl ?_ | refine w_nulR rfl ?_ | refine w_ldc rfl rfl ?_ | refine w_ldc2 rfl rfl ?_ | refine w_put rfl rfl rfl (Nat.le_of_ble_eq_true rfl) (Or.inl rfl) rfl rfl ?_))
      · exfalso; (((try simp only [c_eq0, c_ne0, c_Llt, c_Lle, c_Lgt, c_Lge, c_Leq, c_Lne] at *); try simp only [ax_cnd, vp_in_iff, Int32.lt_iff_toInt_lt, Int32.le_iff_toInt_le, Int64.lt_iff_toInt_lt, Int64.le_iff_toInt_le, q_eq, q_eqL, q_lg, q_nI, q_add, q_sub, q_mul, q_neg, q_addL, q_subL, q_mulL, q_negL, q_i2l, q_l2i, q_b8, q_b16, q_ofI, q_lit, q_ofNL, q_litL, ne_eq, gt_iff_lt, ge_iff_le] at *) <;> omega)
      · (refine w_iret rfl rfl rfl ?_); rfl
theorem r_Tx_add1 (x : Int32) (hn : c.tl < 400) (h1 : 32 ≤ x.toInt) (h2 : x.toInt ≤ 126) : ax_run m_Tx_add [.ref 2, .int x] (ax_hp L xs c m o pool, u) (.inl (some (.int 1)), (ax_hp L xs (ax_St.u_tl (ax_St.u_ch c (upd c.ch c.tl x)) (c.tl + 1)) m o pool, u)) := by
  (refine ax_run_T (ax_T_of M_Tx_add rfl (Nat.le_of_ble_eq_true rfl) ?_))
  (repeat (first | refine w_iadd1 rfl ?_ | refine w_isub1 rfl ?_ | refine w_iinc1 rfl rfl ?_ | refine w_s rfl rfl ?_ | refine w_get rfl rfl rfl rfl ?_ | refine w_nnl rfl ?_ | refine w_nnlR rfl ?_ | refine w_nul rfl ?_ | refine w_nulR rfl ?_ | refine w_ldc rfl rfl ?_ | refine w_ldc2 rfl rfl ?_ | refine w_put rfl rfl rfl (Nat.le_of_ble_eq_true rfl) (Or.inl rfl) rfl rfl ?_)); (first | refine w_if2 rfl (fun _ => ?_) (fun _ => ?_) | refine w_if1 rfl (fun _ => ?_) (fun _ => ?_)) <;> (repeat (first | refine w_iadd1 rfl ?_ | refine w_isub1 rfl ?_ | refine w_iinc1 rfl rfl ?_ | refine w_s rfl rfl ?_ | refine w_get rfl rfl rfl rfl ?_ | refine w_nnl rfl ?_ | refine w_nnlR rfl ?_ | refine w_nul rfl ?_ | refine w_nulR rfl ?_ | refine w_ldc rfl rfl ?_ | refine w_ldc2 rfl rfl ?_ | refine w_put rfl rfl rfl (Nat.le_of_ble_eq_true rfl) (Or.inl rfl) rfl rfl ?_))
  · exfalso; (((try simp only [c_eq0, c_ne0, c_Llt, c_Lle, c_Lgt, c_Lge, c_Leq, c_Lne] at *); try simp only [ax_cnd, vp_in_iff, Int32.lt_iff_toInt_lt, Int32.le_iff_toInt_le, Int64.lt_iff_toInt_lt, Int64.le_iff_toInt_le, q_eq, q_eqL, q_lg, q_nI, q_add, q_sub, q_mul, q_neg, q_addL, q_subL, q_mulL, q_negL, q_i2l, q_l2i, q_b8, q_b16, q_ofI, q_lit, q_ofNL, q_litL, ne_eq, gt_iff_lt, ge_iff_le] at *) <;> omega)
  · (first | refine w_if2 rfl (fun _ => ?_) (fun _ => ?_) | refine w_if1 rfl (fun _ => ?_) (fun _ => ?_)) <;> (repeat (first | refine w_iadd1 rfl ?_ | refine w_isub1 rfl ?_ | refine w_iinc1 rfl rfl ?_ | refine w_s rfl rfl ?_ | refine w_get rfl rfl rfl rfl ?_ | refine w_nnl rfl ?_ | refine w_nnlR rfl ?_ | refine w_nul rfl ?_ | refine w_nulR rfl ?_ | refine w_ldc rfl rfl ?_ | refine w_ldc2 rfl rfl ?_ | refine w_put rfl rfl rfl (Nat.le_of_ble_eq_true rfl) (Or.inl rfl) rfl rfl ?_))
    · exfalso; (((try simp only [c_eq0, c_ne0, c_Llt, c_Lle, c_Lgt, c_Lge, c_Leq, c_Lne] at *); try simp only [ax_cnd, vp_in_iff, Int32.lt_iff_toInt_lt, Int32.le_iff_toInt_le, Int64.lt_iff_toInt_lt, Int64.le_iff_toInt_le, q_eq, q_eqL, q_lg, q_nI, q_add, q_sub, q_mul, q_neg, q_addL, q_subL, q_mulL, q_negL, q_i2l, q_l2i, q_b8, q_b16, q_ofI, q_lit, q_ofNL, q_litL, ne_eq, gt_iff_lt, ge_iff_le] at *) <;> omega)
    · (first | refine w_if2 rfl (fun _ => ?_) (fun _ => ?_) | refine w_if1 rfl (fun _ => ?_) (fun _ => ?_)) <;> (repeat (first | refine w_iadd1 rfl ?_ | refine w_isub1 rfl ?_ | refine w_iinc1 rfl rfl ?_ | refine w_s rfl rfl ?_ | refine w_get rfl rfl rfl rfl ?_ | refine w_nnl rfl ?_ | refine w_nnlR rfl ?_ | refine w_nul rfl ?_ | refine w_nulR rfl ?_ | refine w_ldc rfl rfl ?_ | refine w_ldc2 rfl rfl ?_ | refine w_put rfl rfl rfl (Nat.le_of_ble_eq_true rfl) (Or.inl rfl) rfl rfl ?_))
      · refine w_cas rfl rfl rfl hn (by decide) (q_char (by omega) (by omega)) ?_
        (repeat (first | refine w_iadd1 rfl ?_ | refine w_isub1 rfl ?_ | refine w_iinc1 rfl rfl ?_ | refine w_s rfl rfl ?_ | refine w_get rfl rfl rfl rfl ?_ | refine w_nnl rfl ?_ | refine w_nnlR rfl ?_ | refine w_nul rfl ?_ | refine w_nulR rfl ?_ | refine w_ldc rfl rfl ?_ | refine w_ldc2 rfl rfl ?_ | refine w_put rfl rfl rfl (Nat.le_of_ble_eq_true rfl) (Or.inl rfl) rfl rfl ?_))
        (refine w_iret rfl rfl rfl ?_)
        rfl
      · exfalso; (((try simp only [c_eq0, c_ne0, c_Llt, c_Lle, c_Lgt, c_Lge, c_Leq, c_Lne] at *); try simp only [ax_cnd, vp_in_iff, Int32.lt_iff_toInt_lt, Int32.le_iff_toInt_le, Int64.lt_iff_toInt_lt, Int64.le_iff_toInt_le, q_eq, q_eqL, q_lg, q_nI, q_add, q_sub, q_mul, q_neg, q_addL, q_subL, q_mulL, q_negL, q_i2l, q_l2i, q_b8, q_b16, q_ofI, q_lit, q_ofNL, q_litL, ne_eq, gt_iff_lt, ge_iff_le] at *) <;> omega)
theorem r_unit (x : Int32) (hn : c.tl ≤ 400) : ax_run m_ML_unit [.ref 1, .int x] (ax_hp L xs c m o pool, u)
    (if x.toInt < 32 ∨ 126 < x.toInt ∨ c.tl = 400 then (.inl (some (.int 0)), (ax_hp L xs c m o pool, u)) else (.inl (some (.int 1)), (ax_hp L xs (ax_St.u_tl (ax_St.u_ch c (upd c.ch c.tl x)) (c.tl + 1)) m o pool, u))) := by
  (refine ax_run_T (ax_T_of M_ML_unit rfl (Nat.le_of_ble_eq_true rfl) ?_))
  (repeat (first | refine w_iadd1 rfl ?_ | refine w_isub1 rfl ?_ | refine w_iinc1 rfl rfl ?_ | refine w_s rfl rfl ?_ | refine w_get rfl rfl rfl rfl ?_ | refine w_nnl rfl ?_ | refine w_nnlR rfl ?_ | refine w_nul rfl ?_ | refine w_nulR rfl ?_ | refine w_ldc rfl rfl ?_ | refine w_ldc2 rfl rfl ?_ | refine w_put rfl rfl rfl (Nat.le_of_ble_eq_true rfl) (Or.inl rfl) rfl rfl ?_))
  by_cases hx : x.toInt < 32 ∨ 126 < x.toInt ∨ c.tl = 400
  · rw [if_pos hx]
    (refine w_cv rfl rfl rfl rfl (by exact Nat.le_of_ble_eq_true rfl) (by exact Nat.le_of_ble_eq_true rfl) (r_Tx_add0 x hn hx) ?_; dsimp only [Option.toList, List.drop, List.cons_append, List.nil_append])
    (refine w_iret rfl rfl rfl ?_); rfl
  · rw [if_neg hx]
    (refine w_cv rfl rfl rfl rfl (by exact Nat.le_of_ble_eq_true rfl) (by exact Nat.le_of_ble_eq_true rfl) (r_Tx_add1 x (by omega) (by omega) (by omega)) ?_; dsimp only [Option.toList, List.drop, List.cons_append, List.nil_append])
    (refine w_iret rfl rfl rfl ?_); rfl
theorem r_Bd_add0 (k v y : Int32) (hn : c.bn = 60) : ax_run m_Bd_add [.ref 5, .int k, .int v, .int y] (ax_hp L xs c m o pool, u) (.inl (some (.int (-1))), (ax_hp L xs c m o pool, u)) := by
  (refine ax_run_T (ax_T_of M_Bd_add rfl (Nat.le_of_ble_eq_true rfl) ?_))
  (repeat (first | refine w_iadd1 rfl ?_ | refine w_isub1 rfl ?_ | refine w_iinc1 rfl rfl ?_ | refine w_s rfl rfl ?_ | refine w_get rfl rfl rfl rfl ?_ | refine w_nnl rfl ?_ | refine w_nnlR rfl ?_ | refine w_nul rfl ?_ | refine w_nulR rfl ?_ | refine w_ldc rfl rfl ?_ | refine w_ldc2 rfl rfl ?_ | refine w_put rfl rfl rfl (Nat.le_of_ble_eq_true rfl) (Or.inl rfl) rfl rfl ?_)); (first | refine w_if2 rfl (fun _ => ?_) (fun _ => ?_) | refine w_if1 rfl (fun _ => ?_) (fun _ => ?_)) <;> (repeat (first | refine w_iadd1 rfl ?_ | refine w_isub1 rfl ?_ | refine w_iinc1 rfl rfl ?_ | refine w_s rfl rfl ?_ | refine w_get rfl rfl rfl rfl ?_ | refine w_nnl rfl ?_ | refine w_nnlR rfl ?_ | refine w_nul rfl ?_ | refine w_nulR rfl ?_ | refine w_ldc rfl rfl ?_ | refine w_ldc2 rfl rfl ?_ | refine w_put rfl rfl rfl (Nat.le_of_ble_eq_true rfl) (Or.inl rfl) rfl rfl ?_))
  · exfalso; (((try simp only [c_eq0, c_ne0, c_Llt, c_Lle, c_Lgt, c_Lge, c_Leq, c_Lne] at *); try simp only [ax_cnd, vp_in_iff, Int32.lt_iff_toInt_lt, Int32.le_iff_toInt_le, Int64.lt_iff_toInt_lt, Int64.le_iff_toInt_le, q_eq, q_eqL, q_lg, q_nI, q_add, q_sub, q_mul, q_neg, q_addL, q_subL, q_mulL, q_negL, q_i2l, q_l2i, q_b8, q_b16, q_ofI, q_lit, q_ofNL, q_litL, ne_eq, gt_iff_lt, ge_iff_le] at *) <;> omega)
  · (refine w_iret rfl rfl rfl ?_); rfl
theorem r_Bd_add1 (k v y : Int32) (hn : c.bn < 60) : ax_run m_Bd_add [.ref 5, .int k, .int v, .int y] (ax_hp L xs c m o pool, u) (.inl (some (.int (nI c.bn))), (ax_hp L xs (ax_St.u_bn (ax_St.u_ys (ax_St.u_xs (ax_St.u_layers (ax_St.u_values (ax_St.u_kinds c (upd c.kinds c.bn k)) (upd c.values c.bn v)) (upd c.layers c.bn y)) (upd c.xs c.bn 0)) (upd c.ys c.bn 0)) (c.bn + 1)) m o pool, u)) := by
  (refine ax_run_T (ax_T_of M_Bd_add rfl (Nat.le_of_ble_eq_true rfl) ?_))
  (repeat (first | refine w_iadd1 rfl ?_ | refine w_isub1 rfl ?_ | refine w_iinc1 rfl rfl ?_ | refine w_s rfl rfl ?_ | refine w_get rfl rfl rfl rfl ?_ | refine w_nnl rfl ?_ | refine w_nnlR rfl ?_ | refine w_nul rfl ?_ | refine w_nulR rfl ?_ | refine w_ldc rfl rfl ?_ | refine w_ldc2 rfl rfl ?_ | refine w_put rfl rfl rfl (Nat.le_of_ble_eq_true rfl) (Or.inl rfl) rfl rfl ?_)); (first | refine w_if2 rfl (fun _ => ?_) (fun _ => ?_) | refine w_if1 rfl (fun _ => ?_) (fun _ => ?_)) <;> (repeat (first | refine w_iadd1 rfl ?_ | refine w_isub1 rfl ?_ | refine w_iinc1 rfl rfl ?_ | refine w_s rfl rfl ?_ | refine w_get rfl rfl rfl rfl ?_ | refine w_nnl rfl ?_ | refine w_nnlR rfl ?_ | refine w_nul rfl ?_ | refine w_nulR rfl ?_ | refine w_ldc rfl rfl ?_ | refine w_ldc2 rfl rfl ?_ | refine w_put rfl rfl rfl (Nat.le_of_ble_eq_true rfl) (Or.inl rfl) rfl rfl ?_))
  · refine w_ias rfl rfl rfl hn (by decide) ?_
    (repeat (first | refine w_iadd1 rfl ?_ | refine w_isub1 rfl ?_ | refine w_iinc1 rfl rfl ?_ | refine w_s rfl rfl ?_ | refine w_get rfl rfl rfl rfl ?_ | refine w_nnl rfl ?_ | refine w_nnlR rfl ?_ | refine w_nul rfl ?_ | refine w_nulR rfl ?_ | refine w_ldc rfl rfl ?_ | refine w_ldc2 rfl rfl ?_ | refine w_put rfl rfl rfl (Nat.le_of_ble_eq_true rfl) (Or.inl rfl) rfl rfl ?_))
    refine w_ias rfl rfl rfl hn (by decide) ?_
    (repeat (first | refine w_iadd1 rfl ?_ | refine w_isub1 rfl ?_ | refine w_iinc1 rfl rfl ?_ | refine w_s rfl rfl ?_ | refine w_get rfl rfl rfl rfl ?_ | refine w_nnl rfl ?_ | refine w_nnlR rfl ?_ | refine w_nul rfl ?_ | refine w_nulR rfl ?_ | refine w_ldc rfl rfl ?_ | refine w_ldc2 rfl rfl ?_ | refine w_put rfl rfl rfl (Nat.le_of_ble_eq_true rfl) (Or.inl rfl) rfl rfl ?_))
    refine w_ias rfl rfl rfl hn (by decide) ?_
    (repeat (first | refine w_iadd1 rfl ?_ | refine w_isub1 rfl ?_ | refine w_iinc1 rfl rfl ?_ | refine w_s rfl rfl ?_ | refine w_get rfl rfl rfl rfl ?_ | refine w_nnl rfl ?_ | refine w_nnlR rfl ?_ | refine w_nul rfl ?_ | refine w_nulR rfl ?_ | refine w_ldc rfl rfl ?_ | refine w_ldc2 rfl rfl ?_ | refine w_put rfl rfl rfl (Nat.le_of_ble_eq_true rfl) (Or.inl rfl) rfl rfl ?_))
    refine w_ias rfl rfl rfl hn (by decide) ?_
    (repeat (first | refine w_iadd1 rfl ?_ | refine w_isub1 rfl ?_ | refine w_iinc1 rfl rfl ?_ | refine w_s rfl rfl ?_ | refine w_get rfl rfl rfl rfl ?_ | refine w_nnl rfl ?_ | refine w_nnlR rfl ?_ | refine w_nul rfl ?_ | refine w_nulR rfl ?_ | refine w_ldc rfl rfl ?_ | refine w_ldc2 rfl rfl ?_ | refine w_put rfl rfl rfl (Nat.le_of_ble_eq_true rfl) (Or.inl rfl) rfl rfl ?_))
    refine w_ias rfl rfl rfl hn (by decide) ?_
    (repeat (first | refine w_iadd1 rfl ?_ | refine w_isub1 rfl ?_ | refine w_iinc1 rfl rfl ?_ | refine w_s rfl rfl ?_ | refine w_get rfl rfl rfl rfl ?_ | refine w_nnl rfl ?_ | refine w_nnlR rfl ?_ | refine w_nul rfl ?_ | refine w_nulR rfl ?_ | refine w_ldc rfl rfl ?_ | refine w_ldc2 rfl rfl ?_ | refine w_put rfl rfl rfl (Nat.le_of_ble_eq_true rfl) (Or.inl rfl) rfl rfl ?_))
    (refine w_iret rfl rfl rfl ?_)
    rfl
  · exfalso; (((try simp only [c_eq0, c_ne0, c_Llt, c_Lle, c_Lgt, c_Lge, c_Leq, c_Lne] at *); try simp only [ax_cnd, vp_in_iff, Int32.lt_iff_toInt_lt, Int32.le_iff_toInt_le, Int64.lt_iff_toInt_lt, Int64.le_iff_toInt_le, q_eq, q_eqL, q_lg, q_nI, q_add, q_sub, q_mul, q_neg, q_addL, q_subL, q_mulL, q_negL, q_i2l, q_l2i, q_b8, q_b16, q_ofI, q_lit, q_ofNL, q_litL, ne_eq, gt_iff_lt, ge_iff_le] at *) <;> omega)
end CA
end
section
/-! an end of a call of the class: an answer and a state, or a throw -/
abbrev ax_SR : Type := (Value × ax_St) ⊕ Nat
def ax_out (L : Nat) (xs : Nat → Int32) (m : ax_Mo) (o : Nat → Int64) (pool : List (Option ax_C)) (u : Nat) (c : ax_St) : ax_SR → ax_R
  | .inl q => (.inl (some q.1), (ax_hp L xs q.2 m o pool, u))
  | .inr E => (.inr E, (ax_hp L xs c m o (pool ++ [none]), u + 6))
section CA
variable {L : Nat} {xs : Nat → Int32} {c : ax_St} {m : ax_Mo} {o : Nat → Int64} {pool : List (Option ax_C)} {u : Nat} {h : ax_H}
def sp_thing (c : ax_St) (k : Int32) (v : Int64) (y : Int32) : ax_SR :=
  if ¬ (0 ≤ k.toInt ∧ k.toInt < 6 ∧ 0 ≤ y.toInt ∧ y.toInt < 8) then .inr 0 else if ¬ (0 ≤ v.toInt ∧ v.toInt ≤ 1000000) then .inr 1 else if c.bn = 60 then .inl (.int (-1), c)
  else .inl (.int (nI c.bn), (ax_St.u_bn (ax_St.u_ys (ax_St.u_xs (ax_St.u_layers (ax_St.u_values (ax_St.u_kinds c (upd c.kinds c.bn k)) (upd c.values c.bn v.toInt32)) (upd c.layers c.bn y)) (upd c.xs c.bn 0)) (upd c.ys c.bn 0)) (c.bn + 1)))
theorem r_thing (k : Int32) (v : Int64) (y : Int32) (hn : c.bn ≤ 60) : ax_run m_ML_thing [.ref 1, .int k, .long v, .int y] (ax_hp L xs c m o pool, u) (ax_out L xs m o pool u c (sp_thing c k v y)) := by
  unfold sp_thing
  split
  · (refine ax_run_T (ax_T_of M_ML_thing rfl (Nat.le_of_ble_eq_true rfl) ?_))
    (repeat' (first | refine w_iadd1 rfl ?_ | refine w_isub1 rfl ?_ | refine w_iinc1 rfl rfl ?_ | refine w_s rfl rfl ?_ | refine w_get rfl rfl rfl rfl ?_ | refine w_nnl rfl ?_ | refine w_nnlR rfl ?_ | refine w_nul rfl ?_ | refine w_nulR rfl ?_ | refine w_ldc rfl rfl ?_ | refine w_ldc2 rfl rfl ?_ | refine w_put rfl rfl rfl (Nat.le_of_ble_eq_true rfl) (Or.inl rfl) rfl rfl ?_ | ((first | refine w_if2 rfl (fun _ => ?_) (fun _ => ?_) | refine w_if1 rfl (fun _ => ?_) (fun _ => ?_)) <;> try (exfalso; (((try simp only [c_eq0, c_ne0, c_Llt, c_Lle, c_Lgt, c_Lge, c_Leq, c_Lne] at *); try simp only [ax_cnd, vp_in_iff, Int32.lt_iff_toInt_lt, Int32.le_iff_toInt_le, Int64.lt_iff_toInt_lt, Int64.le_iff_toInt_le, q_eq, q_eqL, q_lg, q_nI, q_add, q_sub, q_mul, q_neg, q_addL, q_subL, q_mulL, q_negL, q_i2l, q_l2i, q_b8, q_b16, q_ofI, q_lit, q_ofNL, q_litL, ne_eq, gt_iff_lt, ge_iff_le] at *) <;> omega); done)))) <;> try (first | (refine w_thr rfl rfl rfl rfl rfl (by decide) rfl rfl ?_; rfl) | (exfalso; (((try simp only [c_eq0, c_ne0, c_Llt, c_Lle, c_Lgt, c_Lge, c_Leq, c_Lne] at *); try simp only [ax_cnd, vp_in_iff, Int32.lt_iff_toInt_lt, Int32.le_iff_toInt_le, Int64.lt_iff_toInt_lt, Int64.le_iff_toInt_le, q_eq, q_eqL, q_lg, q_nI, q_add, q_sub, q_mul, q_neg, q_addL, q_subL, q_mulL, q_negL, q_i2l, q_l2i, q_b8, q_b16, q_ofI, q_lit, q_ofNL, q_litL, ne_eq, gt_iff_lt, ge_iff_le] at *) <;> omega)))
    (refine w_cs rfl rfl (by first | decide | exact Nat.le_of_ble_eq_true rfl) (by exact Nat.le_of_ble_eq_true rfl) (r_noLayer y) ?_; dsimp only [Option.toList, List.drop, List.cons_append, List.nil_append])
    (repeat' (first | refine w_iadd1 rfl ?_ | refine w_isub1 rfl ?_ | refine w_iinc1 rfl rfl ?_ | refine w_s rfl rfl ?_ | refine w_get rfl rfl rfl rfl ?_ | refine w_nnl rfl ?_ | refine w_nnlR rfl ?_ | refine w_nul rfl ?_ | refine w_nulR rfl ?_ | refine w_ldc rfl rfl ?_ | refine w_ldc2 rfl rfl ?_ | refine w_put rfl rfl rfl (Nat.le_of_ble_eq_true rfl) (Or.inl rfl) rfl rfl ?_ | ((first | refine w_if2 rfl (fun _ => ?_) (fun _ => ?_) | refine w_if1 rfl (fun _ => ?_) (fun _ => ?_)) <;> try (exfalso; (((try simp only [c_eq0, c_ne0, c_Llt, c_Lle, c_Lgt, c_Lge, c_Leq, c_Lne] at *); try simp only [ax_cnd, vp_in_iff, Int32.lt_iff_toInt_lt, Int32.le_iff_toInt_le, Int64.lt_iff_toInt_lt, Int64.le_iff_toInt_le, q_eq, q_eqL, q_lg, q_nI, q_add, q_sub, q_mul, q_neg, q_addL, q_subL, q_mulL, q_negL, q_i2l, q_l2i, q_b8, q_b16, q_ofI, q_lit, q_ofNL, q_litL, ne_eq, gt_iff_lt, ge_iff_le] at *) <;> omega); done)))) <;> (first | (refine w_thr rfl rfl rfl rfl rfl (by decide) rfl rfl ?_; rfl) | (exfalso; (((try simp only [c_eq0, c_ne0, c_Llt, c_Lle, c_Lgt, c_Lge, c_Leq, c_Lne] at *); try simp only [ax_cnd, vp_in_iff, Int32.lt_iff_toInt_lt, Int32.le_iff_toInt_le, Int64.lt_iff_toInt_lt, Int64.le_iff_toInt_le, q_eq, q_eqL, q_lg, q_nI, q_add, q_sub, q_mul, q_neg, q_addL, q_subL, q_mulL, q_negL, q_i2l, q_l2i, q_b8, q_b16, q_ofI, q_lit, q_ofNL, q_litL, ne_eq, gt_iff_lt, ge_iff_le] at *) <;> omega)))
  · split
    · (refine ax_run_T (ax_T_of M_ML_thing rfl (Nat.le_of_ble_eq_true rfl) ?_))
      (repeat' (first | refine w_iadd1 rfl ?_ | refine w_isub1 rfl ?_ | refine w_iinc1 rfl rfl ?_ | refine w_s rfl rfl ?_ | refine w_get rfl rfl rfl rfl ?_ | refine w_nnl rfl ?_ | refine w_nnlR rfl ?_ | refine w_nul rfl ?_ | refine w_nulR rfl ?_ | refine w_ldc rfl rfl ?_ | refine w_ldc2 rfl rfl ?_ | refine w_put rfl rfl rfl (Nat.le_of_ble_eq_true rfl) (Or.inl rfl) rfl rfl ?_ | ((first | refine w_if2 rfl (fun _ => ?_) (fun _ => ?_) | refine w_if1 rfl (fun _ => ?_) (fun _ => ?_)) <;> try (exfalso; (((try simp only [c_eq0, c_ne0, c_Llt, c_Lle, c_Lgt, c_Lge, c_Leq, c_Lne] at *); try simp only [ax_cnd, vp_in_iff, Int32.lt_iff_toInt_lt, Int32.le_iff_toInt_le, Int64.lt_iff_toInt_lt, Int64.le_iff_toInt_le, q_eq, q_eqL, q_lg, q_nI, q_add, q_sub, q_mul, q_neg, q_addL, q_subL, q_mulL, q_negL, q_i2l, q_l2i, q_b8, q_b16, q_ofI, q_lit, q_ofNL, q_litL, ne_eq, gt_iff_lt, ge_iff_le] at *) <;> omega); done)))) <;> try (first | (refine w_thr rfl rfl rfl rfl rfl (by decide) rfl rfl ?_; rfl) | (exfalso; (((try simp only [c_eq0, c_ne0, c_Llt, c_Lle, c_Lgt, c_Lge, c_Leq, c_Lne] at *); try simp only [ax_cnd, vp_in_iff, Int32.lt_iff_toInt_lt, Int32.le_iff_toInt_le, Int64.lt_iff_toInt_lt, Int64.le_iff_toInt_le, q_eq, q_eqL, q_lg, q_nI, q_add, q_sub, q_mul, q_neg, q_addL, q_subL, q_mulL, q_negL, q_i2l, q_l2i, q_b8, q_b16, q_ofI, q_lit, q_ofNL, q_litL, ne_eq, gt_iff_lt, ge_iff_le] at *) <;> omega)))
      (refine w_cs rfl rfl (by first | decide | exact Nat.le_of_ble_eq_true rfl) (by exact Nat.le_of_ble_eq_true rfl) (r_noLayer y) ?_; dsimp only [Option.toList, List.drop, List.cons_append, List.nil_append])
      (repeat' (first | refine w_iadd1 rfl ?_ | refine w_isub1 rfl ?_ | refine w_iinc1 rfl rfl ?_ | refine w_s rfl rfl ?_ | refine w_get rfl rfl rfl rfl ?_ | refine w_nnl rfl ?_ | refine w_nnlR rfl ?_ | refine w_nul rfl ?_ | refine w_nulR rfl ?_ | refine w_ldc rfl rfl ?_ | refine w_ldc2 rfl rfl ?_ | refine w_put rfl rfl rfl (Nat.le_of_ble_eq_true rfl) (Or.inl rfl) rfl rfl ?_ | ((first | refine w_if2 rfl (fun _ => ?_) (fun _ => ?_) | refine w_if1 rfl (fun _ => ?_) (fun _ => ?_)) <;> try (exfalso; (((try simp only [c_eq0, c_ne0, c_Llt, c_Lle, c_Lgt, c_Lge, c_Leq, c_Lne] at *); try simp only [ax_cnd, vp_in_iff, Int32.lt_iff_toInt_lt, Int32.le_iff_toInt_le, Int64.lt_iff_toInt_lt, Int64.le_iff_toInt_le, q_eq, q_eqL, q_lg, q_nI, q_add, q_sub, q_mul, q_neg, q_addL, q_subL, q_mulL, q_negL, q_i2l, q_l2i, q_b8, q_b16, q_ofI, q_lit, q_ofNL, q_litL, ne_eq, gt_iff_lt, ge_iff_le] at *) <;> omega); done)))) <;> (first | (refine w_thr rfl rfl rfl rfl rfl (by decide) rfl rfl ?_; rfl) | (exfalso; (((try simp only [c_eq0, c_ne0, c_Llt, c_Lle, c_Lgt, c_Lge, c_Leq, c_Lne] at *); try simp only [ax_cnd, vp_in_iff, Int32.lt_iff_toInt_lt, Int32.le_iff_toInt_le, Int64.lt_iff_toInt_lt, Int64.le_iff_toInt_le, q_eq, q_eqL, q_lg, q_nI, q_add, q_sub, q_mul, q_neg, q_addL, q_subL, q_mulL, q_negL, q_i2l, q_l2i, q_b8, q_b16, q_ofI, q_lit, q_ofNL, q_litL, ne_eq, gt_iff_lt, ge_iff_le] at *) <;> omega)))
    · (refine ax_run_T (ax_T_of M_ML_thing rfl (Nat.le_of_ble_eq_true rfl) ?_))
      (repeat' (first | refine w_iadd1 rfl ?_ | refine w_isub1 rfl ?_ | refine w_iinc1 rfl rfl ?_ | refine w_s rfl rfl ?_ | refine w_get rfl rfl rfl rfl ?_ | refine w_nnl rfl ?_ | refine w_nnlR rfl ?_ | refine w_nul rfl ?_ | refine w_nulR rfl ?_ | refine w_ldc rfl rfl ?_ | refine w_ldc2 rfl rfl ?_ | refine w_put rfl rfl rfl (Nat.le_of_ble_eq_true rfl) (Or.inl rfl) rfl rfl ?_ | ((first | refine w_if2 rfl (fun _ => ?_) (fun _ => ?_) | refine w_if1 rfl (fun _ => ?_) (fun _ => ?_)) <;> try (exfalso; (((try simp only [c_eq0, c_ne0, c_Llt, c_Lle, c_Lgt, c_Lge, c_Leq, c_Lne] at *); try simp only [ax_cnd, vp_in_iff, Int32.lt_iff_toInt_lt, Int32.le_iff_toInt_le, Int64.lt_iff_toInt_lt, Int64.le_iff_toInt_le, q_eq, q_eqL, q_lg, q_nI, q_add, q_sub, q_mul, q_neg, q_addL, q_subL, q_mulL, q_negL, q_i2l, q_l2i, q_b8, q_b16, q_ofI, q_lit, q_ofNL, q_litL, ne_eq, gt_iff_lt, ge_iff_le] at *) <;> omega); done)))) <;> try (first | (refine w_thr rfl rfl rfl rfl rfl (by decide) rfl rfl ?_; rfl) | (exfalso; (((try simp only [c_eq0, c_ne0, c_Llt, c_Lle, c_Lgt, c_Lge, c_Leq, c_Lne] at *); try simp only [ax_cnd, vp_in_iff, Int32.lt_iff_toInt_lt, Int32.le_iff_toInt_le, Int64.lt_iff_toInt_lt, Int64.le_iff_toInt_le, q_eq, q_eqL, q_lg, q_nI, q_add, q_sub, q_mul, q_neg, q_addL, q_subL, q_mulL, q_negL, q_i2l, q_l2i, q_b8, q_b16, q_ofI, q_lit, q_ofNL, q_litL, ne_eq, gt_iff_lt, ge_iff_le] at *) <;> omega)))
      (refine w_cs rfl rfl (by first | decide | exact Nat.le_of_ble_eq_true rfl) (by exact Nat.le_of_ble_eq_true rfl) (r_noLayer y) ?_; dsimp only [Option.toList, List.drop, List.cons_append, List.nil_append])
      (repeat' (first | refine w_iadd1 rfl ?_ | refine w_isub1 rfl ?_ | refine w_iinc1 rfl rfl ?_ | refine w_s rfl rfl ?_ | refine w_get rfl rfl rfl rfl ?_ | refine w_nnl rfl ?_ | refine w_nnlR rfl ?_ | refine w_nul rfl ?_ | refine w_nulR rfl ?_ | refine w_ldc rfl rfl ?_ | refine w_ldc2 rfl rfl ?_ | refine w_put rfl rfl rfl (Nat.le_of_ble_eq_true rfl) (Or.inl rfl) rfl rfl ?_ | ((first | refine w_if2 rfl (fun _ => ?_) (fun _ => ?_) | refine w_if1 rfl (fun _ => ?_) (fun _ => ?_)) <;> try (exfalso; (((try simp only [c_eq0, c_ne0, c_Llt, c_Lle, c_Lgt, c_Lge, c_Leq, c_Lne] at *); try simp only [ax_cnd, vp_in_iff, Int32.lt_iff_toInt_lt, Int32.le_iff_toInt_le, Int64.lt_iff_toInt_lt, Int64.le_iff_toInt_le, q_eq, q_eqL, q_lg, q_nI, q_add, q_sub, q_mul, q_neg, q_addL, q_subL, q_mulL, q_negL, q_i2l, q_l2i, q_b8, q_b16, q_ofI, q_lit, q_ofNL, q_litL, ne_eq, gt_iff_lt, ge_iff_le] at *) <;> omega); done)))) <;> try (first | (refine w_thr rfl rfl rfl rfl rfl (by decide) rfl rfl ?_; rfl) | (exfalso; (((try simp only [c_eq0, c_ne0, c_Llt, c_Lle, c_Lgt, c_Lge, c_Leq, c_Lne] at *); try simp only [ax_cnd, vp_in_iff, Int32.lt_iff_toInt_lt, Int32.le_iff_toInt_le, Int64.lt_iff_toInt_lt, Int64.le_iff_toInt_le, q_eq, q_eqL, q_lg, q_nI, q_add, q_sub, q_mul, q_neg, q_addL, q_subL, q_mulL, q_negL, q_i2l, q_l2i, q_b8, q_b16, q_ofI, q_lit, q_ofNL, q_litL, ne_eq, gt_iff_lt, ge_iff_le] at *) <;> omega)))
      split
      · (refine w_cv rfl rfl rfl rfl (by exact Nat.le_of_ble_eq_true rfl) (by exact Nat.le_of_ble_eq_true rfl) (r_Bd_add0 k v.toInt32 y (by assumption)) ?_; dsimp only [Option.toList, List.drop, List.cons_append, List.nil_append])
        (refine w_iret rfl rfl rfl ?_); rfl
      · (refine w_cv rfl rfl rfl rfl (by exact Nat.le_of_ble_eq_true rfl) (by exact Nat.le_of_ble_eq_true rfl) (r_Bd_add1 k v.toInt32 y (by omega)) ?_; dsimp only [Option.toList, List.drop, List.cons_append, List.nil_append])
        (refine w_iret rfl rfl rfl ?_); rfl
def sp_at (c : ax_St) (t : Int32) (px py : Int64) : ax_SR :=
  if ¬ (0 ≤ t.toInt ∧ t.toInt < c.bn) then .inr 0 else if ¬ (-1000000 ≤ px.toInt ∧ px.toInt ≤ 1000000 ∧ -1000000 ≤ py.toInt ∧ py.toInt ≤ 1000000) then .inr 1
  else .inl (.int (bI (¬ (c.xs t.toInt.toNat = px.toInt32 ∧ c.ys t.toInt.toNat = py.toInt32))), (ax_St.u_ys (ax_St.u_xs c (upd c.xs t.toInt.toNat px.toInt32)) (upd c.ys t.toInt.toNat py.toInt32)))
theorem r_Bd_move (t : Nat) (x y : Int32) (hn : c.bn ≤ 60) (ht : t < c.bn) : ax_run m_Bd_move [.ref 5, .int (nI t), .int x, .int y] (ax_hp L xs c m o pool, u) (.inl (some (.int (bI (¬ (c.xs t = x ∧ c.ys t = y))))), (ax_hp L xs (ax_St.u_ys (ax_St.u_xs c (upd c.xs t x)) (upd c.ys t y)) m o pool, u)) := by
  (refine ax_run_T (ax_T_of M_Bd_move rfl (Nat.le_of_ble_eq_true rfl) ?_))
  (repeat (first | refine w_iadd1 rfl ?_ | refine w_isub1 rfl ?_ | refine w_iinc1 rfl rfl ?_ | refine w_s rfl rfl ?_ | refine w_get rfl rfl rfl rfl ?_ | refine w_nnl rfl ?_ | refine w_nnlR rfl ?_ | refine w_nul rfl ?_ | refine w_nulR rfl ?_ | refine w_ldc rfl rfl ?_ | refine w_ldc2 rfl rfl ?_ | refine w_put rfl rfl rfl (Nat.le_of_ble_eq_true rfl) (Or.inl rfl) rfl rfl ?_))
  (refine w_cv rfl rfl rfl rfl (by exact Nat.le_of_ble_eq_true rfl) (by exact Nat.le_of_ble_eq_true rfl) (r_Bd_hasNo (nI t) hn) ?_; dsimp only [Option.toList, List.drop, List.cons_append, List.nil_append])
  (repeat' (first | refine w_iadd1 rfl ?_ | refine w_isub1 rfl ?_ | refine w_iinc1 rfl rfl ?_ | refine w_s rfl rfl ?_ | refine w_get rfl rfl rfl rfl ?_ | refine w_nnl rfl ?_ | refine w_nnlR rfl ?_ | refine w_nul rfl ?_ | refine w_nulR rfl ?_ | refine w_ldc rfl rfl ?_ | refine w_ldc2 rfl rfl ?_ | refine w_put rfl rfl rfl (Nat.le_of_ble_eq_true rfl) (Or.inl rfl) rfl rfl ?_ | ((first | refine w_if2 rfl (fun _ => ?_) (fun _ => ?_) | refine w_if1 rfl (fun _ => ?_) (fun _ => ?_)) <;> try (exfalso; (((try simp only [c_eq0, c_ne0, c_Llt, c_Lle, c_Lgt, c_Lge, c_Leq, c_Lne] at *); try simp only [ax_cnd, vp_in_iff, Int32.lt_iff_toInt_lt, Int32.le_iff_toInt_le, Int64.lt_iff_toInt_lt, Int64.le_iff_toInt_le, q_eq, q_eqL, q_lg, q_nI, q_add, q_sub, q_mul, q_neg, q_addL, q_subL, q_mulL, q_negL, q_i2l, q_l2i, q_b8, q_b16, q_ofI, q_lit, q_ofNL, q_litL, ne_eq, gt_iff_lt, ge_iff_le] at *) <;> omega); done)))) <;> try (first | (refine w_thr rfl rfl rfl rfl rfl (by decide) rfl rfl ?_; rfl) | (exfalso; (((try simp only [c_eq0, c_ne0, c_Llt, c_Lle, c_Lgt, c_Lge, c_Leq, c_Lne] at *); try simp only [ax_cnd, vp_in_iff, Int32.lt_iff_toInt_lt, Int32.le_iff_toInt_le, Int64.lt_iff_toInt_lt, Int64.le_iff_toInt_le, q_eq, q_eqL, q_lg, q_nI, q_add, q_sub, q_mul, q_neg, q_addL, q_subL, q_mulL, q_negL, q_i2l, q_l2i, q_b8, q_b16, q_ofI, q_lit, q_ofNL, q_litL, ne_eq, gt_iff_lt, ge_iff_le] at *) <;> omega)))
  refine w_ia rfl rfl rfl (by omega) (by decide) ?_
  have fin : ∀ (b : Int32), b = bI (¬ (c.xs t = x ∧ c.ys t = y)) → ax_wp ax_run M_Bd_move (fun r' => r' = (.inl (some (.int (bI (¬ (c.xs t = x ∧ c.ys t = y))))), (ax_hp L xs (ax_St.u_ys (ax_St.u_xs c (upd c.xs t x)) (upd c.ys t y)) m o pool, u))) 37 [(4, .int b), (0, .ref 5), (1, .int (nI t)), (2, .int x), (3, .int y)] [] (ax_hp L xs c m o pool, u) := by
    intro b hb
    (repeat (first | refine w_iadd1 rfl ?_ | refine w_isub1 rfl ?_ | refine w_iinc1 rfl rfl ?_ | refine w_s rfl rfl ?_ | refine w_get rfl rfl rfl rfl ?_ | refine w_nnl rfl ?_ | refine w_nnlR rfl ?_ | refine w_nul rfl ?_ | refine w_nulR rfl ?_ | refine w_ldc rfl rfl ?_ | refine w_ldc2 rfl rfl ?_ | refine w_put rfl rfl rfl (Nat.le_of_ble_eq_true rfl) (Or.inl rfl) rfl rfl ?_))
    refine w_ias rfl rfl rfl (by omega) (by decide) ?_
    (repeat (first | refine w_iadd1 rfl ?_ | refine w_isub1 rfl ?_ | refine w_iinc1 rfl rfl ?_ | refine w_s rfl rfl ?_ | refine w_get rfl rfl rfl rfl ?_ | refine w_nnl rfl ?_ | refine w_nnlR rfl ?_ | refine w_nul rfl ?_ | refine w_nulR rfl ?_ | refine w_ldc rfl rfl ?_ | refine w_ldc2 rfl rfl ?_ | refine w_put rfl rfl rfl (Nat.le_of_ble_eq_true rfl) (Or.inl rfl) rfl rfl ?_))
    refine w_ias rfl rfl rfl (by omega) (by decide) ?_
    (repeat (first | refine w_iadd1 rfl ?_ | refine w_isub1 rfl ?_ | refine w_iinc1 rfl rfl ?_ | refine w_s rfl rfl ?_ | refine w_get rfl rfl rfl rfl ?_ | refine w_nnl rfl ?_ | refine w_nnlR rfl ?_ | refine w_nul rfl ?_ | refine w_nulR rfl ?_ | refine w_ldc rfl rfl ?_ | refine w_ldc2 rfl rfl ?_ | refine w_put rfl rfl rfl (Nat.le_of_ble_eq_true rfl) (Or.inl rfl) rfl rfl ?_))
    refine w_iret rfl rfl (by rw [hb]; exact bI_nar) ?_
    rw [hb]
    rfl
  (repeat (first | refine w_iadd1 rfl ?_ | refine w_isub1 rfl ?_ | refine w_iinc1 rfl rfl ?_ | refine w_s rfl rfl ?_ | refine w_get rfl rfl rfl rfl ?_ | refine w_nnl rfl ?_ | refine w_nnlR rfl ?_ | refine w_nul rfl ?_ | refine w_nulR rfl ?_ | refine w_ldc rfl rfl ?_ | refine w_ldc2 rfl rfl ?_ | refine w_put rfl rfl rfl (Nat.le_of_ble_eq_true rfl) (Or.inl rfl) rfl rfl ?_))
  refine w_if2 rfl (fun h1 => ?_) (fun h1 => ?_)
  · (repeat ((fail_if_success (show ax_wp _ _ _ 37 _ _ _)); (first | refine w_iadd1 rfl ?_ | refine w_isub1 rfl ?_ | refine w_iinc1 rfl rfl ?_ | refine w_s rfl rfl ?_ | refine w_get rfl rfl rfl rfl ?_ | refine w_nnl rfl ?_ | refine w_nnlR rfl ?_ | refine w_nul rfl ?_ | refine w_nulR rfl ?_ | refine w_ldc rfl rfl ?_ | refine w_ldc2 rfl rfl ?_ | refine w_put rfl rfl rfl (Nat.le_of_ble_eq_true rfl) (Or.inl rfl) rfl rfl ?_)))
    exact w_lv (fin (Int32.ofInt 1) (bI_t (P := ¬ (c.xs t = x ∧ c.ys t = y)) (fun z => h1 z.1)).symm) rfl ⟨rfl, rfl, rfl, rfl, rfl, trivial⟩
  · (repeat (first | refine w_iadd1 rfl ?_ | refine w_isub1 rfl ?_ | refine w_iinc1 rfl rfl ?_ | refine w_s rfl rfl ?_ | refine w_get rfl rfl rfl rfl ?_ | refine w_nnl rfl ?_ | refine w_nnlR rfl ?_ | refine w_nul rfl ?_ | refine w_nulR rfl ?_ | refine w_ldc rfl rfl ?_ | refine w_ldc2 rfl rfl ?_ | refine w_put rfl rfl rfl (Nat.le_of_ble_eq_true rfl) (Or.inl rfl) rfl rfl ?_))
    refine w_ia rfl rfl rfl (by omega) (by decide) ?_
    (repeat (first | refine w_iadd1 rfl ?_ | refine w_isub1 rfl ?_ | refine w_iinc1 rfl rfl ?_ | refine w_s rfl rfl ?_ | refine w_get rfl rfl rfl rfl ?_ | refine w_nnl rfl ?_ | refine w_nnlR rfl ?_ | refine w_nul rfl ?_ | refine w_nulR rfl ?_ | refine w_ldc rfl rfl ?_ | refine w_ldc2 rfl rfl ?_ | refine w_put rfl rfl rfl (Nat.le_of_ble_eq_true rfl) (Or.inl rfl) rfl rfl ?_))
    refine w_if2 rfl (fun h2 => ?_) (fun h2 => ?_)
    · (repeat ((fail_if_success (show ax_wp _ _ _ 37 _ _ _)); (first | refine w_iadd1 rfl ?_ | refine w_isub1 rfl ?_ | refine w_iinc1 rfl rfl ?_ | refine w_s rfl rfl ?_ | refine w_get rfl rfl rfl rfl ?_ | refine w_nnl rfl ?_ | refine w_nnlR rfl ?_ | refine w_nul rfl ?_ | refine w_nulR rfl ?_ | refine w_ldc rfl rfl ?_ | refine w_ldc2 rfl rfl ?_ | refine w_put rfl rfl rfl (Nat.le_of_ble_eq_true rfl) (Or.inl rfl) rfl rfl ?_)))
      exact w_lv (fin (Int32.ofInt 0) (bI_f (fun z => z ⟨Decidable.not_not.mp h1, h2⟩)).symm) rfl ⟨rfl, rfl, rfl, rfl, rfl, trivial⟩
    · (repeat ((fail_if_success (show ax_wp _ _ _ 37 _ _ _)); (first | refine w_iadd1 rfl ?_ | refine w_isub1 rfl ?_ | refine w_iinc1 rfl rfl ?_ | refine w_s rfl rfl ?_ | refine w_get rfl rfl rfl rfl ?_ | refine w_nnl rfl ?_ | refine w_nnlR rfl ?_ | refine w_nul rfl ?_ | refine w_nulR rfl ?_ | refine w_ldc rfl rfl ?_ | refine w_ldc2 rfl rfl ?_ | refine w_put rfl rfl rfl (Nat.le_of_ble_eq_true rfl) (Or.inl rfl) rfl rfl ?_)))
      exact w_lv (fin (Int32.ofInt 1) (bI_t (P := ¬ (c.xs t = x ∧ c.ys t = y)) (fun z => h2 z.2)).symm) rfl ⟨rfl, rfl, rfl, rfl, rfl, trivial⟩
theorem r_at (t : Int32) (px py : Int64) (hn : c.bn ≤ 60) : ax_run m_ML_at [.ref 1, .int t, .long px, .long py] (ax_hp L xs c m o pool, u) (ax_out L xs m o pool u c (sp_at c t px py)) := by
  unfold sp_at
  split
  · (refine ax_run_T (ax_T_of M_ML_at rfl (Nat.le_of_ble_eq_true rfl) ?_))
    (repeat (first | refine w_iadd1 rfl ?_ | refine w_isub1 rfl ?_ | refine w_iinc1 rfl rfl ?_ | refine w_s rfl rfl ?_ | refine w_get rfl rfl rfl rfl ?_ | refine w_nnl rfl ?_ | refine w_nnlR rfl ?_ | refine w_nul rfl ?_ | refine w_nulR rfl ?_ | refine w_ldc rfl rfl ?_ | refine w_ldc2 rfl rfl ?_ | refine w_put rfl rfl rfl (Nat.le_of_ble_eq_true rfl) (Or.inl rfl) rfl rfl ?_))
    (refine w_cv rfl rfl rfl rfl (by exact Nat.le_of_ble_eq_true rfl) (by exact Nat.le_of_ble_eq_true rfl) (r_Bd_hasNo t hn) ?_; dsimp only [Option.toList, List.drop, List.cons_append, List.nil_append])
    (repeat' (first | refine w_iadd1 rfl ?_ | refine w_isub1 rfl ?_ | refine w_iinc1 rfl rfl ?_ | refine w_s rfl rfl ?_ | refine w_get rfl rfl rfl rfl ?_ | refine w_nnl rfl ?_ | refine w_nnlR rfl ?_ | refine w_nul rfl ?_ | refine w_nulR rfl ?_ | refine w_ldc rfl rfl ?_ | refine w_ldc2 rfl rfl ?_ | refine w_put rfl rfl rfl (Nat.le_of_ble_eq_true rfl) (Or.inl rfl) rfl rfl ?_ | ((first | refine w_if2 rfl (fun _ => ?_) (fun _ => ?_) | refine w_if1 rfl (fun _ => ?_) (fun _ => ?_)) <;> try (exfalso; (((try simp only [c_eq0, c_ne0, c_Llt, c_Lle, c_Lgt, c_Lge, c_Leq, c_Lne] at *); try simp only [ax_cnd, vp_in_iff, Int32.lt_iff_toInt_lt, Int32.le_iff_toInt_le, Int64.lt_iff_toInt_lt, Int64.le_iff_toInt_le, q_eq, q_eqL, q_lg, q_nI, q_add, q_sub, q_mul, q_neg, q_addL, q_subL, q_mulL, q_negL, q_i2l, q_l2i, q_b8, q_b16, q_ofI, q_lit, q_ofNL, q_litL, ne_eq, gt_iff_lt, ge_iff_le] at *) <;> omega); done)))) <;> (first | (refine w_thr rfl rfl rfl rfl rfl (by decide) rfl rfl ?_; rfl) | (exfalso; (((try simp only [c_eq0, c_ne0, c_Llt, c_Lle, c_Lgt, c_Lge, c_Leq, c_Lne] at *); try simp only [ax_cnd, vp_in_iff, Int32.lt_iff_toInt_lt, Int32.le_iff_toInt_le, Int64.lt_iff_toInt_lt, Int64.le_iff_toInt_le, q_eq, q_eqL, q_lg, q_nI, q_add, q_sub, q_mul, q_neg, q_addL, q_subL, q_mulL, q_negL, q_i2l, q_l2i, q_b8, q_b16, q_ofI, q_lit, q_ofNL, q_litL, ne_eq, gt_iff_lt, ge_iff_le] at *) <;> omega)))
  · split
    · (refine ax_run_T (ax_T_of M_ML_at rfl (Nat.le_of_ble_eq_true rfl) ?_))
      (repeat (first | refine w_iadd1 rfl ?_ | refine w_isub1 rfl ?_ | refine w_iinc1 rfl rfl ?_ | refine w_s rfl rfl ?_ | refine w_get rfl rfl rfl rfl ?_ | refine w_nnl rfl ?_ | refine w_nnlR rfl ?_ | refine w_nul rfl ?_ | refine w_nulR rfl ?_ | refine w_ldc rfl rfl ?_ | refine w_ldc2 rfl rfl ?_ | refine w_put rfl rfl rfl (Nat.le_of_ble_eq_true rfl) (Or.inl rfl) rfl rfl ?_))
      (refine w_cv rfl rfl rfl rfl (by exact Nat.le_of_ble_eq_true rfl) (by exact Nat.le_of_ble_eq_true rfl) (r_Bd_hasNo t hn) ?_; dsimp only [Option.toList, List.drop, List.cons_append, List.nil_append])
      (repeat' (first | refine w_iadd1 rfl ?_ | refine w_isub1 rfl ?_ | refine w_iinc1 rfl rfl ?_ | refine w_s rfl rfl ?_ | refine w_get rfl rfl rfl rfl ?_ | refine w_nnl rfl ?_ | refine w_nnlR rfl ?_ | refine w_nul rfl ?_ | refine w_nulR rfl ?_ | refine w_ldc rfl rfl ?_ | refine w_ldc2 rfl rfl ?_ | refine w_put rfl rfl rfl (Nat.le_of_ble_eq_true rfl) (Or.inl rfl) rfl rfl ?_ | ((first | refine w_if2 rfl (fun _ => ?_) (fun _ => ?_) | refine w_if1 rfl (fun _ => ?_) (fun _ => ?_)) <;> try (exfalso; (((try simp only [c_eq0, c_ne0, c_Llt, c_Lle, c_Lgt, c_Lge, c_Leq, c_Lne] at *); try simp only [ax_cnd, vp_in_iff, Int32.lt_iff_toInt_lt, Int32.le_iff_toInt_le, Int64.lt_iff_toInt_lt, Int64.le_iff_toInt_le, q_eq, q_eqL, q_lg, q_nI, q_add, q_sub, q_mul, q_neg, q_addL, q_subL, q_mulL, q_negL, q_i2l, q_l2i, q_b8, q_b16, q_ofI, q_lit, q_ofNL, q_litL, ne_eq, gt_iff_lt, ge_iff_le] at *) <;> omega); done)))) <;> (first | (refine w_thr rfl rfl rfl rfl rfl (by decide) rfl rfl ?_; rfl) | (exfalso; (((try simp only [c_eq0, c_ne0, c_Llt, c_Lle, c_Lgt, c_Lge, c_Leq, c_Lne] at *); try simp only [ax_cnd, vp_in_iff, Int32.lt_iff_toInt_lt, Int32.le_iff_toInt_le, Int64.lt_iff_toInt_lt, Int64.le_iff_toInt_le, q_eq, q_eqL, q_lg, q_nI, q_add, q_sub, q_mul, q_neg, q_addL, q_subL, q_mulL, q_negL, q_i2l, q_l2i, q_b8, q_b16, q_ofI, q_lit, q_ofNL, q_litL, ne_eq, gt_iff_lt, ge_iff_le] at *) <;> omega)))
    · rename_i h1 h2
      obtain ⟨n, rfl, hn1, hn2⟩ := q_nat (x := t) (by omega)
      (refine ax_run_T (ax_T_of M_ML_at rfl (Nat.le_of_ble_eq_true rfl) ?_))
      (repeat (first | refine w_iadd1 rfl ?_ | refine w_isub1 rfl ?_ | refine w_iinc1 rfl rfl ?_ | refine w_s rfl rfl ?_ | refine w_get rfl rfl rfl rfl ?_ | refine w_nnl rfl ?_ | refine w_nnlR rfl ?_ | refine w_nul rfl ?_ | refine w_nulR rfl ?_ | refine w_ldc rfl rfl ?_ | refine w_ldc2 rfl rfl ?_ | refine w_put rfl rfl rfl (Nat.le_of_ble_eq_true rfl) (Or.inl rfl) rfl rfl ?_))
      (refine w_cv rfl rfl rfl rfl (by exact Nat.le_of_ble_eq_true rfl) (by exact Nat.le_of_ble_eq_true rfl) (r_Bd_hasNo (nI n) hn) ?_; dsimp only [Option.toList, List.drop, List.cons_append, List.nil_append])
      (repeat' (first | refine w_iadd1 rfl ?_ | refine w_isub1 rfl ?_ | refine w_iinc1 rfl rfl ?_ | refine w_s rfl rfl ?_ | refine w_get rfl rfl rfl rfl ?_ | refine w_nnl rfl ?_ | refine w_nnlR rfl ?_ | refine w_nul rfl ?_ | refine w_nulR rfl ?_ | refine w_ldc rfl rfl ?_ | refine w_ldc2 rfl rfl ?_ | refine w_put rfl rfl rfl (Nat.le_of_ble_eq_true rfl) (Or.inl rfl) rfl rfl ?_ | ((first | refine w_if2 rfl (fun _ => ?_) (fun _ => ?_) | refine w_if1 rfl (fun _ => ?_) (fun _ => ?_)) <;> try (exfalso; (((try simp only [c_eq0, c_ne0, c_Llt, c_Lle, c_Lgt, c_Lge, c_Leq, c_Lne] at *); try simp only [ax_cnd, vp_in_iff, Int32.lt_iff_toInt_lt, Int32.le_iff_toInt_le, Int64.lt_iff_toInt_lt, Int64.le_iff_toInt_le, q_eq, q_eqL, q_lg, q_nI, q_add, q_sub, q_mul, q_neg, q_addL, q_subL, q_mulL, q_negL, q_i2l, q_l2i, q_b8, q_b16, q_ofI, q_lit, q_ofNL, q_litL, ne_eq, gt_iff_lt, ge_iff_le] at *) <;> omega); done)))) <;> try (first | (refine w_thr rfl rfl rfl rfl rfl (by decide) rfl rfl ?_; rfl) | (exfalso; (((try simp only [c_eq0, c_ne0, c_Llt, c_Lle, c_Lgt, c_Lge, c_Leq, c_Lne] at *); try simp only [ax_cnd, vp_in_iff, Int32.lt_iff_toInt_lt, Int32.le_iff_toInt_le, Int64.lt_iff_toInt_lt, Int64.le_iff_toInt_le, q_eq, q_eqL, q_lg, q_nI, q_add, q_sub, q_mul, q_neg, q_addL, q_subL, q_mulL, q_negL, q_i2l, q_l2i, q_b8, q_b16, q_ofI, q_lit, q_ofNL, q_litL, ne_eq, gt_iff_lt, ge_iff_le] at *) <;> omega)))
      (refine w_cv rfl rfl rfl rfl (by exact Nat.le_of_ble_eq_true rfl) (by exact Nat.le_of_ble_eq_true rfl) (r_Bd_move n px.toInt32 py.toInt32 hn (by omega)) ?_; dsimp only [Option.toList, List.drop, List.cons_append, List.nil_append])
      refine w_iret rfl rfl bI_nar ?_
      rw [← hn1]
      rfl
end CA
end
section
section CB
variable {L : Nat} {xs : Nat → Int32} {c : ax_St} {m : ax_Mo} {o : Nat → Int64} {pool : List (Option ax_C)} {u : Nat} {h : ax_H}
theorem r_thingOf0 (k : Int32) (hn : c.rn ≤ 60) (hk : ¬ (0 ≤ k.toInt ∧ k.toInt < c.rn)) : ax_run m_Re_thingOf [.ref 11, .int k] (ax_hp L xs c m o pool, u) (.inl (some (.int (-1))), (ax_hp L xs c m o pool, u)) := by
  (refine ax_run_T (ax_T_of M_Re_thingOf rfl (Nat.le_of_ble_eq_true rfl) ?_))
  (repeat' (first | refine w_iadd1 rfl ?_ | refine w_isub1 rfl ?_ | refine w_iinc1 rfl rfl ?_ | refine w_s rfl rfl ?_ | refine w_get rfl rfl rfl rfl ?_ | refine w_nnl rfl ?_ | refine w_nnlR rfl ?_ | refine w_nul rfl ?_ | refine w_nulR rfl ?_ | refine w_ldc rfl rfl ?_ | refine w_ldc2 rfl rfl ?_ | refine w_put rfl rfl rfl (Nat.le_of_ble_eq_true rfl) (Or.inl rfl) rfl rfl ?_ | ((first | refine w_if2 rfl (fun _ => ?_) (fun _ => ?_) | refine w_if1 rfl (fun _ => ?_) (fun _ => ?_)) <;> try (exfalso; (((try simp only [c_eq0, c_ne0, c_Llt, c_Lle, c_Lgt, c_Lge, c_Leq, c_Lne] at *); try simp only [ax_cnd, vp_in_iff, Int32.lt_iff_toInt_lt, Int32.le_iff_toInt_le, Int64.lt_iff_toInt_lt, Int64.le_iff_toInt_le, q_eq, q_eqL, q_lg, q_nI, q_add, q_sub, q_mul, q_neg, q_addL, q_subL, q_mulL, q_negL, q_i2l, q_l2i, q_b8, q_b16, q_ofI, q_lit, q_ofNL, q_litL, ne_eq, gt_iff_lt, ge_iff_le] at *) <;> omega); done)))) <;> ((refine w_iret rfl rfl rfl ?_); rfl)
theorem r_thingOf1 (k : Nat) (hn : c.rn ≤ 60) (hk : k < c.rn) : ax_run m_Re_thingOf [.ref 11, .int (nI k)] (ax_hp L xs c m o pool, u) (.inl (some (.int (c.rt k))), (ax_hp L xs c m o pool, u)) := by
  (refine ax_run_T (ax_T_of M_Re_thingOf rfl (Nat.le_of_ble_eq_true rfl) ?_))
  (repeat' (first | refine w_iadd1 rfl ?_ | refine w_isub1 rfl ?_ | refine w_iinc1 rfl rfl ?_ | refine w_s rfl rfl ?_ | refine w_get rfl rfl rfl rfl ?_ | refine w_nnl rfl ?_ | refine w_nnlR rfl ?_ | refine w_nul rfl ?_ | refine w_nulR rfl ?_ | refine w_ldc rfl rfl ?_ | refine w_ldc2 rfl rfl ?_ | refine w_put rfl rfl rfl (Nat.le_of_ble_eq_true rfl) (Or.inl rfl) rfl rfl ?_ | ((first | refine w_if2 rfl (fun _ => ?_) (fun _ => ?_) | refine w_if1 rfl (fun _ => ?_) (fun _ => ?_)) <;> try (exfalso; (((try simp only [c_eq0, c_ne0, c_Llt, c_Lle, c_Lgt, c_Lge, c_Leq, c_Lne] at *); try simp only [ax_cnd, vp_in_iff, Int32.lt_iff_toInt_lt, Int32.le_iff_toInt_le, Int64.lt_iff_toInt_lt, Int64.le_iff_toInt_le, q_eq, q_eqL, q_lg, q_nI, q_add, q_sub, q_mul, q_neg, q_addL, q_subL, q_mulL, q_negL, q_i2l, q_l2i, q_b8, q_b16, q_ofI, q_lit, q_ofNL, q_litL, ne_eq, gt_iff_lt, ge_iff_le] at *) <;> omega); done)))) <;> try (first | (refine w_thr rfl rfl rfl rfl rfl (by decide) rfl rfl ?_; rfl) | (exfalso; (((try simp only [c_eq0, c_ne0, c_Llt, c_Lle, c_Lgt, c_Lge, c_Leq, c_Lne] at *); try simp only [ax_cnd, vp_in_iff, Int32.lt_iff_toInt_lt, Int32.le_iff_toInt_le, Int64.lt_iff_toInt_lt, Int64.le_iff_toInt_le, q_eq, q_eqL, q_lg, q_nI, q_add, q_sub, q_mul, q_neg, q_addL, q_subL, q_mulL, q_negL, q_i2l, q_l2i, q_b8, q_b16, q_ofI, q_lit, q_ofNL, q_litL, ne_eq, gt_iff_lt, ge_iff_le] at *) <;> omega)))
  refine w_ia rfl rfl rfl (by omega) (by decide) ?_
  (refine w_iret rfl rfl rfl ?_); rfl
theorem r_excessOf1 (k : Nat) (hn : c.rn ≤ 60) (hk : k < c.rn) : ax_run m_Re_excessOf [.ref 11, .int (nI k)] (ax_hp L xs c m o pool, u) (.inl (some (.int (c.re k))), (ax_hp L xs c m o pool, u)) := by
  (refine ax_run_T (ax_T_of M_Re_excessOf rfl (Nat.le_of_ble_eq_true rfl) ?_))
  (repeat' (first | refine w_iadd1 rfl ?_ | refine w_isub1 rfl ?_ | refine w_iinc1 rfl rfl ?_ | refine w_s rfl rfl ?_ | refine w_get rfl rfl rfl rfl ?_ | refine w_nnl rfl ?_ | refine w_nnlR rfl ?_ | refine w_nul rfl ?_ | refine w_nulR rfl ?_ | refine w_ldc rfl rfl ?_ | refine w_ldc2 rfl rfl ?_ | refine w_put rfl rfl rfl (Nat.le_of_ble_eq_true rfl) (Or.inl rfl) rfl rfl ?_ | ((first | refine w_if2 rfl (fun _ => ?_) (fun _ => ?_) | refine w_if1 rfl (fun _ => ?_) (fun _ => ?_)) <;> try (exfalso; (((try simp only [c_eq0, c_ne0, c_Llt, c_Lle, c_Lgt, c_Lge, c_Leq, c_Lne] at *); try simp only [ax_cnd, vp_in_iff, Int32.lt_iff_toInt_lt, Int32.le_iff_toInt_le, Int64.lt_iff_toInt_lt, Int64.le_iff_toInt_le, q_eq, q_eqL, q_lg, q_nI, q_add, q_sub, q_mul, q_neg, q_addL, q_subL, q_mulL, q_negL, q_i2l, q_l2i, q_b8, q_b16, q_ofI, q_lit, q_ofNL, q_litL, ne_eq, gt_iff_lt, ge_iff_le] at *) <;> omega); done)))) <;> try (first | (refine w_thr rfl rfl rfl rfl rfl (by decide) rfl rfl ?_; rfl) | (exfalso; (((try simp only [c_eq0, c_ne0, c_Llt, c_Lle, c_Lgt, c_Lge, c_Leq, c_Lne] at *); try simp only [ax_cnd, vp_in_iff, Int32.lt_iff_toInt_lt, Int32.le_iff_toInt_le, Int64.lt_iff_toInt_lt, Int64.le_iff_toInt_le, q_eq, q_eqL, q_lg, q_nI, q_add, q_sub, q_mul, q_neg, q_addL, q_subL, q_mulL, q_negL, q_i2l, q_l2i, q_b8, q_b16, q_ofI, q_lit, q_ofNL, q_litL, ne_eq, gt_iff_lt, ge_iff_le] at *) <;> omega)))
  refine w_ia rfl rfl rfl (by omega) (by decide) ?_
  (refine w_iret rfl rfl rfl ?_); rfl
def sp_part (c : ax_St) (t w : Nat) : Int32 := match w with
  | 1 => c.kinds t
  | 3 => c.layers t
  | 4 => c.xs t
  | _ => c.ys t
theorem r_Bd_part (t w : Nat) (hn : c.bn ≤ 60) (ht : t < c.bn) (hw : w = 1 ∨ w = 3 ∨ w = 4 ∨ w = 5) : ax_run m_Bd_part [.ref 5, .int (nI t), .int (nI w)] (ax_hp L xs c m o pool, u) (.inl (some (.int (sp_part c t w))), (ax_hp L xs c m o pool, u)) := by
  (refine ax_run_T (ax_T_of M_Bd_part rfl (Nat.le_of_ble_eq_true rfl) ?_))
  (repeat (first | refine w_iadd1 rfl ?_ | refine w_isub1 rfl ?_ | refine w_iinc1 rfl rfl ?_ | refine w_s rfl rfl ?_ | refine w_get rfl rfl rfl rfl ?_ | refine w_nnl rfl ?_ | refine w_nnlR rfl ?_ | refine w_nul rfl ?_ | refine w_nulR rfl ?_ | refine w_ldc rfl rfl ?_ | refine w_ldc2 rfl rfl ?_ | refine w_put rfl rfl rfl (Nat.le_of_ble_eq_true rfl) (Or.inl rfl) rfl rfl ?_))
  (refine w_cv rfl rfl rfl rfl (by exact Nat.le_of_ble_eq_true rfl) (by exact Nat.le_of_ble_eq_true rfl) (r_Bd_hasNo (nI t) hn) ?_; dsimp only [Option.toList, List.drop, List.cons_append, List.nil_append])
  (repeat' (first | refine w_iadd1 rfl ?_ | refine w_isub1 rfl ?_ | refine w_iinc1 rfl rfl ?_ | refine w_s rfl rfl ?_ | refine w_get rfl rfl rfl rfl ?_ | refine w_nnl rfl ?_ | refine w_nnlR rfl ?_ | refine w_nul rfl ?_ | refine w_nulR rfl ?_ | refine w_ldc rfl rfl ?_ | refine w_ldc2 rfl rfl ?_ | refine w_put rfl rfl rfl (Nat.le_of_ble_eq_true rfl) (Or.inl rfl) rfl rfl ?_ | ((first | refine w_if2 rfl (fun _ => ?_) (fun _ => ?_) | refine w_if1 rfl (fun _ => ?_) (fun _ => ?_)) <;> try (exfalso; (((try simp only [c_eq0, c_ne0, c_Llt, c_Lle, c_Lgt, c_Lge, c_Leq, c_Lne] at *); try simp only [ax_cnd, vp_in_iff, Int32.lt_iff_toInt_lt, Int32.le_iff_toInt_le, Int64.lt_iff_toInt_lt, Int64.le_iff_toInt_le, q_eq, q_eqL, q_lg, q_nI, q_add, q_sub, q_mul, q_neg, q_addL, q_subL, q_mulL, q_negL, q_i2l, q_l2i, q_b8, q_b16, q_ofI, q_lit, q_ofNL, q_litL, ne_eq, gt_iff_lt, ge_iff_le] at *) <;> omega); done)))) <;> try (first | (refine w_thr rfl rfl rfl rfl rfl (by decide) rfl rfl ?_; rfl) | (exfalso; (((try simp only [c_eq0, c_ne0, c_Llt, c_Lle, c_Lgt, c_Lge, c_Leq, c_Lne] at *); try simp only [ax_cnd, vp_in_iff, Int32.lt_iff_toInt_lt, Int32.le_iff_toInt_le, Int64.lt_iff_toInt_lt, Int64.le_iff_toInt_le, q_eq, q_eqL, q_lg, q_nI, q_add, q_sub, q_mul, q_neg, q_addL, q_subL, q_mulL, q_negL, q_i2l, q_l2i, q_b8, q_b16, q_ofI, q_lit, q_ofNL, q_litL, ne_eq, gt_iff_lt, ge_iff_le] at *) <;> omega)))
  rcases hw with rfl | rfl | rfl | rfl
  · refine w_tsw rfl rfl ?_
    (repeat (first | refine w_iadd1 rfl ?_ | refine w_isub1 rfl ?_ | refine w_iinc1 rfl rfl ?_ | refine w_s rfl rfl ?_ | refine w_get rfl rfl rfl rfl ?_ | refine w_nnl rfl ?_ | refine w_nnlR rfl ?_ | refine w_nul rfl ?_ | refine w_nulR rfl ?_ | refine w_ldc rfl rfl ?_ | refine w_ldc2 rfl rfl ?_ | refine w_put rfl rfl rfl (Nat.le_of_ble_eq_true rfl) (Or.inl rfl) rfl rfl ?_))
    refine w_ia rfl rfl rfl (by omega) (by decide) ?_
    (refine w_iret rfl rfl rfl ?_); rfl
  · refine w_tsw rfl rfl ?_
    (repeat (first | refine w_iadd1 rfl ?_ | refine w_isub1 rfl ?_ | refine w_iinc1 rfl rfl ?_ | refine w_s rfl rfl ?_ | refine w_get rfl rfl rfl rfl ?_ | refine w_nnl rfl ?_ | refine w_nnlR rfl ?_ | refine w_nul rfl ?_ | refine w_nulR rfl ?_ | refine w_ldc rfl rfl ?_ | refine w_ldc2 rfl rfl ?_ | refine w_put rfl rfl rfl (Nat.le_of_ble_eq_true rfl) (Or.inl rfl) rfl rfl ?_))
    refine w_ia rfl rfl rfl (by omega) (by decide) ?_
    (refine w_iret rfl rfl rfl ?_); rfl
  · refine w_tsw rfl rfl ?_
    (repeat (first | refine w_iadd1 rfl ?_ | refine w_isub1 rfl ?_ | refine w_iinc1 rfl rfl ?_ | refine w_s rfl rfl ?_ | refine w_get rfl rfl rfl rfl ?_ | refine w_nnl rfl ?_ | refine w_nnlR rfl ?_ | refine w_nul rfl ?_ | refine w_nulR rfl ?_ | refine w_ldc rfl rfl ?_ | refine w_ldc2 rfl rfl ?_ | refine w_put rfl rfl rfl (Nat.le_of_ble_eq_true rfl) (Or.inl rfl) rfl rfl ?_))
    refine w_ia rfl rfl rfl (by omega) (by decide) ?_
    (refine w_iret rfl rfl rfl ?_); rfl
  · refine w_tsw rfl rfl ?_
    (repeat (first | refine w_iadd1 rfl ?_ | refine w_isub1 rfl ?_ | refine w_iinc1 rfl rfl ?_ | refine w_s rfl rfl ?_ | refine w_get rfl rfl rfl rfl ?_ | refine w_nnl rfl ?_ | refine w_nnlR rfl ?_ | refine w_nul rfl ?_ | refine w_nulR rfl ?_ | refine w_ldc rfl rfl ?_ | refine w_ldc2 rfl rfl ?_ | refine w_put rfl rfl rfl (Nat.le_of_ble_eq_true rfl) (Or.inl rfl) rfl rfl ?_))
    refine w_ia rfl rfl rfl (by omega) (by decide) ?_
    (refine w_iret rfl rfl rfl ?_); rfl
def sp_rmk (c : ax_St) (k w : Nat) : Int32 := match w with
  | 0 => c.rt k
  | 2 => c.re k
  | w => sp_part c (c.rt k).toInt.toNat w
def sp_remark (c : ax_St) (k w : Int32) : ax_SR :=
  if ¬ (0 ≤ w.toInt ∧ w.toInt < 6) then .inr 0 else if ¬ (0 ≤ k.toInt ∧ k.toInt < c.rn) then .inl (.int (-1), c) else .inl (.int (sp_rmk c k.toInt.toNat w.toInt.toNat), c)
theorem r_remark (k w : Int32) (hn : c.rn ≤ 60) (hb : c.bn ≤ 60) (hr : ∀ k, k < c.rn → ∃ t, t < c.bn ∧ c.rt k = nI t) : ax_run m_ML_remark [.ref 1, .int k, .int w] (ax_hp L xs c m o pool, u) (ax_out L xs m o pool u c (sp_remark c k w)) := by
  unfold sp_remark
  split
  · (refine ax_run_T (ax_T_of M_ML_remark rfl (Nat.le_of_ble_eq_true rfl) ?_))
    (repeat' (first | refine w_iadd1 rfl ?_ | refine w_isub1 rfl ?_ | refine w_iinc1 rfl rfl ?_ | refine w_s rfl rfl ?_ | refine w_get rfl rfl rfl rfl ?_ | refine w_nnl rfl ?_ | refine w_nnlR rfl ?_ | refine w_nul rfl ?_ | refine w_nulR rfl ?_ | refine w_ldc rfl rfl ?_ | refine w_ldc2 rfl rfl ?_ | refine w_put rfl rfl rfl (Nat.le_of_ble_eq_true rfl) (Or.inl rfl) rfl rfl ?_ | ((first | refine w_if2 rfl (fun _ => ?_) (fun _ => ?_) | refine w_if1 rfl (fun _ => ?_) (fun _ => ?_)) <;> try (exfalso; (((try simp only [c_eq0, c_ne0, c_Llt, c_Lle, c_Lgt, c_Lge, c_Leq, c_Lne] at *); try simp only [ax_cnd, vp_in_iff, Int32.lt_iff_toInt_lt, Int32.le_iff_toInt_le, Int64.lt_iff_toInt_lt, Int64.le_iff_toInt_le, q_eq, q_eqL, q_lg, q_nI, q_add, q_sub, q_mul, q_neg, q_addL, q_subL, q_mulL, q_negL, q_i2l, q_l2i, q_b8, q_b16, q_ofI, q_lit, q_ofNL, q_litL, ne_eq, gt_iff_lt, ge_iff_le] at *) <;> omega); done)))) <;> (first | (refine w_thr rfl rfl rfl rfl rfl (by decide) rfl rfl ?_; rfl) | (exfalso; (((try simp only [c_eq0, c_ne0, c_Llt, c_Lle, c_Lgt, c_Lge, c_Leq, c_Lne] at *); try simp only [ax_cnd, vp_in_iff, Int32.lt_iff_toInt_lt, Int32.le_iff_toInt_le, Int64.lt_iff_toInt_lt, Int64.le_iff_toInt_le, q_eq, q_eqL, q_lg, q_nI, q_add, q_sub, q_mul, q_neg, q_addL, q_subL, q_mulL, q_negL, q_i2l, q_l2i, q_b8, q_b16, q_ofI, q_lit, q_ofNL, q_litL, ne_eq, gt_iff_lt, ge_iff_le] at *) <;> omega)))
  · split
    · (refine ax_run_T (ax_T_of M_ML_remark rfl (Nat.le_of_ble_eq_true rfl) ?_))
      (repeat' (first | refine w_iadd1 rfl ?_ | refine w_isub1 rfl ?_ | refine w_iinc1 rfl rfl ?_ | refine w_s rfl rfl ?_ | refine w_get rfl rfl rfl rfl ?_ | refine w_nnl rfl ?_ | refine w_nnlR rfl ?_ | refine w_nul rfl ?_ | refine w_nulR rfl ?_ | refine w_ldc rfl rfl ?_ | refine w_ldc2 rfl rfl ?_ | refine w_put rfl rfl rfl (Nat.le_of_ble_eq_true rfl) (Or.inl rfl) rfl rfl ?_ | ((first | refine w_if2 rfl (fun _ => ?_) (fun _ => ?_) | refine w_if1 rfl (fun _ => ?_) (fun _ => ?_)) <;> try (exfalso; (((try simp only [c_eq0, c_ne0, c_Llt, c_Lle, c_Lgt, c_Lge, c_Leq, c_Lne] at *); try simp only [ax_cnd, vp_in_iff, Int32.lt_iff_toInt_lt, Int32.le_iff_toInt_le, Int64.lt_iff_toInt_lt, Int64.le_iff_toInt_le, q_eq, q_eqL, q_lg, q_nI, q_add, q_sub, q_mul, q_neg, q_addL, q_subL, q_mulL, q_negL, q_i2l, q_l2i, q_b8, q_b16, q_ofI, q_lit, q_ofNL, q_litL, ne_eq, gt_iff_lt, ge_iff_le] at *) <;> omega); done)))) <;> try (first | (refine w_thr rfl rfl rfl rfl rfl (by decide) rfl rfl ?_; rfl) | (exfalso; (((try simp only [c_eq0, c_ne0, c_Llt, c_Lle, c_Lgt, c_Lge, c_Leq, c_Lne] at *); try simp only [ax_cnd, vp_in_iff, Int32.lt_iff_toInt_lt, Int32.le_iff_toInt_le, Int64.lt_iff_toInt_lt, Int64.le_iff_toInt_le, q_eq, q_eqL, q_lg, q_nI, q_add, q_sub, q_mul, q_neg, q_addL, q_subL, q_mulL, q_negL, q_i2l, q_l2i, q_b8, q_b16, q_ofI, q_lit, q_ofNL, q_litL, ne_eq, gt_iff_lt, ge_iff_le] at *) <;> omega)))
      (refine w_cv rfl rfl rfl rfl (by exact Nat.le_of_ble_eq_true rfl) (by exact Nat.le_of_ble_eq_true rfl) (r_thingOf0 k hn (by assumption)) ?_; dsimp only [Option.toList, List.drop, List.cons_append, List.nil_append])
      (repeat' (first | refine w_iadd1 rfl ?_ | refine w_isub1 rfl ?_ | refine w_iinc1 rfl rfl ?_ | refine w_s rfl rfl ?_ | refine w_get rfl rfl rfl rfl ?_ | refine w_nnl rfl ?_ | refine w_nnlR rfl ?_ | refine w_nul rfl ?_ | refine w_nulR rfl ?_ | refine w_ldc rfl rfl ?_ | refine w_ldc2 rfl rfl ?_ | refine w_put rfl rfl rfl (Nat.le_of_ble_eq_true rfl) (Or.inl rfl) rfl rfl ?_ | ((first | refine w_if2 rfl (fun _ => ?_) (fun _ => ?_) | refine w_if1 rfl (fun _ => ?_) (fun _ => ?_)) <;> try (exfalso; (((try simp only [c_eq0, c_ne0, c_Llt, c_Lle, c_Lgt, c_Lge, c_Leq, c_Lne] at *); try simp only [ax_cnd, vp_in_iff, Int32.lt_iff_toInt_lt, Int32.le_iff_toInt_le, Int64.lt_iff_toInt_lt, Int64.le_iff_toInt_le, q_eq, q_eqL, q_lg, q_nI, q_add, q_sub, q_mul, q_neg, q_addL, q_subL, q_mulL, q_negL, q_i2l, q_l2i, q_b8, q_b16, q_ofI, q_lit, q_ofNL, q_litL, ne_eq, gt_iff_lt, ge_iff_le] at *) <;> omega); done)))) <;> try (first | (refine w_thr rfl rfl rfl rfl rfl (by decide) rfl rfl ?_; rfl) | (exfalso; (((try simp only [c_eq0, c_ne0, c_Llt, c_Lle, c_Lgt, c_Lge, c_Leq, c_Lne] at *); try simp only [ax_cnd, vp_in_iff, Int32.lt_iff_toInt_lt, Int32.le_iff_toInt_le, Int64.lt_iff_toInt_lt, Int64.le_iff_toInt_le, q_eq, q_eqL, q_lg, q_nI, q_add, q_sub, q_mul, q_neg, q_addL, q_subL, q_mulL, q_negL, q_i2l, q_l2i, q_b8, q_b16, q_ofI, q_lit, q_ofNL, q_litL, ne_eq, gt_iff_lt, ge_iff_le] at *) <;> omega)))
      (refine w_iret rfl rfl rfl ?_); rfl
    · rename_i h1 h2
      obtain ⟨j, rfl, hj1, hj2⟩ := q_nat (x := k) (by omega)
      obtain ⟨v, rfl, hv1, hv2⟩ := q_nat (x := w) (by omega)
      obtain ⟨t, ht1, ht2⟩ := hr j (by omega)
      rw [← hj1, ← hv1]
      (refine ax_run_T (ax_T_of M_ML_remark rfl (Nat.le_of_ble_eq_true rfl) ?_))
      (repeat' (first | refine w_iadd1 rfl ?_ | refine w_isub1 rfl ?_ | refine w_iinc1 rfl rfl ?_ | refine w_s rfl rfl ?_ | refine w_get rfl rfl rfl rfl ?_ | refine w_nnl rfl ?_ | refine w_nnlR rfl ?_ | refine w_nul rfl ?_ | refine w_nulR rfl ?_ | refine w_ldc rfl rfl ?_ | refine w_ldc2 rfl rfl ?_ | refine w_put rfl rfl rfl (Nat.le_of_ble_eq_true rfl) (Or.inl rfl) rfl rfl ?_ | ((first | refine w_if2 rfl (fun _ => ?_) (fun _ => ?_) | refine w_if1 rfl (fun _ => ?_) (fun _ => ?_)) <;> try (exfalso; (((try simp only [c_eq0, c_ne0, c_Llt, c_Lle, c_Lgt, c_Lge, c_Leq, c_Lne] at *); try simp only [ax_cnd, vp_in_iff, Int32.lt_iff_toInt_lt, Int32.le_iff_toInt_le, Int64.lt_iff_toInt_lt, Int64.le_iff_toInt_le, q_eq, q_eqL, q_lg, q_nI, q_add, q_sub, q_mul, q_neg, q_addL, q_subL, q_mulL, q_negL, q_i2l, q_l2i, q_b8, q_b16, q_ofI, q_lit, q_ofNL, q_litL, ne_eq, gt_iff_lt, ge_iff_le] at *) <;> omega); done)))) <;> try (first | (refine w_thr rfl rfl rfl rfl rfl (by decide) rfl rfl ?_; rfl) | (exfalso; (((try simp only [c_eq0, c_ne0, c_Llt, c_Lle, c_Lgt, c_Lge, c_Leq, c_Lne] at *); try simp only [ax_cnd, vp_in_iff, Int32.lt_iff_toInt_lt, Int32.le_iff_toInt_le, Int64.lt_iff_toInt_lt, Int64.le_iff_toInt_le, q_eq, q_eqL, q_lg, q_nI, q_add, q_sub, q_mul, q_neg, q_addL, q_subL, q_mulL, q_negL, q_i2l, q_l2i, q_b8, q_b16, q_ofI, q_lit, q_ofNL, q_litL, ne_eq, gt_iff_lt, ge_iff_le] at *) <;> omega)))
      (refine w_cv rfl rfl rfl rfl (by exact Nat.le_of_ble_eq_true rfl) (by exact Nat.le_of_ble_eq_true rfl) (r_thingOf1 j hn (by omega)) ?_; dsimp only [Option.toList, List.drop, List.cons_append, List.nil_append])
      rw [ht2]
      (repeat' (first | refine w_iadd1 rfl ?_ | refine w_isub1 rfl ?_ | refine w_iinc1 rfl rfl ?_ | refine w_s rfl rfl ?_ | refine w_get rfl rfl rfl rfl ?_ | refine w_nnl rfl ?_ | refine w_nnlR rfl ?_ | refine w_nul rfl ?_ | refine w_nulR rfl ?_ | refine w_ldc rfl rfl ?_ | refine w_ldc2 rfl rfl ?_ | refine w_put rfl rfl rfl (Nat.le_of_ble_eq_true rfl) (Or.inl rfl) rfl rfl ?_ | ((first | refine w_if2 rfl (fun _ => ?_) (fun _ => ?_) | refine w_if1 rfl (fun _ => ?_) (fun _ => ?_)) <;> try (exfalso; (((try simp only [c_eq0, c_ne0, c_Llt, c_Lle, c_Lgt, c_Lge, c_Leq, c_Lne] at *); try simp only [ax_cnd, vp_in_iff, Int32.lt_iff_toInt_lt, Int32.le_iff_toInt_le, Int64.lt_iff_toInt_lt, Int64.le_iff_toInt_le, q_eq, q_eqL, q_lg, q_nI, q_add, q_sub, q_mul, q_neg, q_addL, q_subL, q_mulL, q_negL, q_i2l, q_l2i, q_b8, q_b16, q_ofI, q_lit, q_ofNL, q_litL, ne_eq, gt_iff_lt, ge_iff_le] at *) <;> omega); done)))) <;> try (first | (refine w_thr rfl rfl rfl rfl rfl (by decide) rfl rfl ?_; rfl) | (exfalso; (((try simp only [c_eq0, c_ne0, c_Llt, c_Lle, c_Lgt, c_Lge, c_Leq, c_Lne] at *); try simp only [ax_cnd, vp_in_iff, Int32.lt_iff_toInt_lt, Int32.le_iff_toInt_le, Int64.lt_iff_toInt_lt, Int64.le_iff_toInt_le, q_eq, q_eqL, q_lg, q_nI, q_add, q_sub, q_mul, q_neg, q_addL, q_subL, q_mulL, q_negL, q_i2l, q_l2i, q_b8, q_b16, q_ofI, q_lit, q_ofNL, q_litL, ne_eq, gt_iff_lt, ge_iff_le] at *) <;> omega)))
      have hv : v = 0 ∨ v = 1 ∨ v = 2 ∨ v = 3 ∨ v = 4 ∨ v = 5 := by omega
      have htt : (nI t).toInt.toNat = t := by rw [nI_toInt (by omega)]; rfl
      rcases hv with rfl | rfl | rfl | rfl | rfl | rfl
      · refine w_lsw rfl rfl ?_
        (repeat (first | refine w_iadd1 rfl ?_ | refine w_isub1 rfl ?_ | refine w_iinc1 rfl rfl ?_ | refine w_s rfl rfl ?_ | refine w_get rfl rfl rfl rfl ?_ | refine w_nnl rfl ?_ | refine w_nnlR rfl ?_ | refine w_nul rfl ?_ | refine w_nulR rfl ?_ | refine w_ldc rfl rfl ?_ | refine w_ldc2 rfl rfl ?_ | refine w_put rfl rfl rfl (Nat.le_of_ble_eq_true rfl) (Or.inl rfl) rfl rfl ?_))
        (refine w_iret rfl rfl rfl ?_)
        show _ = (Sum.inl (some (Value.int (c.rt j))), _)
        rw [ht2]
        try rfl
      · refine w_lsw rfl rfl ?_
        (repeat (first | refine w_iadd1 rfl ?_ | refine w_isub1 rfl ?_ | refine w_iinc1 rfl rfl ?_ | refine w_s rfl rfl ?_ | refine w_get rfl rfl rfl rfl ?_ | refine w_nnl rfl ?_ | refine w_nnlR rfl ?_ | refine w_nul rfl ?_ | refine w_nulR rfl ?_ | refine w_ldc rfl rfl ?_ | refine w_ldc2 rfl rfl ?_ | refine w_put rfl rfl rfl (Nat.le_of_ble_eq_true rfl) (Or.inl rfl) rfl rfl ?_))
        (refine w_cv rfl rfl rfl rfl (by exact Nat.le_of_ble_eq_true rfl) (by exact Nat.le_of_ble_eq_true rfl) (r_Bd_part t 1 hb ht1 (by decide)) ?_; dsimp only [Option.toList, List.drop, List.cons_append, List.nil_append])
        (refine w_iret rfl rfl rfl ?_)
        show _ = (Sum.inl (some (Value.int (sp_part c (c.rt j).toInt.toNat 1))), _)
        rw [ht2, htt]
        try rfl
      · refine w_lsw rfl rfl ?_
        (repeat (first | refine w_iadd1 rfl ?_ | refine w_isub1 rfl ?_ | refine w_iinc1 rfl rfl ?_ | refine w_s rfl rfl ?_ | refine w_get rfl rfl rfl rfl ?_ | refine w_nnl rfl ?_ | refine w_nnlR rfl ?_ | refine w_nul rfl ?_ | refine w_nulR rfl ?_ | refine w_ldc rfl rfl ?_ | refine w_ldc2 rfl rfl ?_ | refine w_put rfl rfl rfl (Nat.le_of_ble_eq_true rfl) (Or.inl rfl) rfl rfl ?_))
        (refine w_cv rfl rfl rfl rfl (by exact Nat.le_of_ble_eq_true rfl) (by exact Nat.le_of_ble_eq_true rfl) (r_excessOf1 j hn (by omega)) ?_; dsimp only [Option.toList, List.drop, List.cons_append, List.nil_append])
        (refine w_iret rfl rfl rfl ?_)
        rfl
      · refine w_lsw rfl rfl ?_
        (repeat (first | refine w_iadd1 rfl ?_ | refine w_isub1 rfl ?_ | refine w_iinc1 rfl rfl ?_ | refine w_s rfl rfl ?_ | refine w_get rfl rfl rfl rfl ?_ | refine w_nnl rfl ?_ | refine w_nnlR rfl ?_ | refine w_nul rfl ?_ | refine w_nulR rfl ?_ | refine w_ldc rfl rfl ?_ | refine w_ldc2 rfl rfl ?_ | refine w_put rfl rfl rfl (Nat.le_of_ble_eq_true rfl) (Or.inl rfl) rfl rfl ?_))
        (refine w_cv rfl rfl rfl rfl (by exact Nat.le_of_ble_eq_true rfl) (by exact Nat.le_of_ble_eq_true rfl) (r_Bd_part t 3 hb ht1 (by decide)) ?_; dsimp only [Option.toList, List.drop, List.cons_append, List.nil_append])
        (refine w_iret rfl rfl rfl ?_)
        show _ = (Sum.inl (some (Value.int (sp_part c (c.rt j).toInt.toNat 3))), _)
        rw [ht2, htt]
        try rfl
      · refine w_lsw rfl rfl ?_
        (repeat (first | refine w_iadd1 rfl ?_ | refine w_isub1 rfl ?_ | refine w_iinc1 rfl rfl ?_ | refine w_s rfl rfl ?_ | refine w_get rfl rfl rfl rfl ?_ | refine w_nnl rfl ?_ | refine w_nnlR rfl ?_ | refine w_nul rfl ?_ | refine w_nulR rfl ?_ | refine w_ldc rfl rfl ?_ | refine w_ldc2 rfl rfl ?_ | refine w_put rfl rfl rfl (Nat.le_of_ble_eq_true rfl) (Or.inl rfl) rfl rfl ?_))
        (refine w_cv rfl rfl rfl rfl (by exact Nat.le_of_ble_eq_true rfl) (by exact Nat.le_of_ble_eq_true rfl) (r_Bd_part t 4 hb ht1 (by decide)) ?_; dsimp only [Option.toList, List.drop, List.cons_append, List.nil_append])
        (refine w_iret rfl rfl rfl ?_)
        show _ = (Sum.inl (some (Value.int (sp_part c (c.rt j).toInt.toNat 4))), _)
        rw [ht2, htt]
        try rfl
      · refine w_lsw rfl rfl ?_
        (repeat (first | refine w_iadd1 rfl ?_ | refine w_isub1 rfl ?_ | refine w_iinc1 rfl rfl ?_ | refine w_s rfl rfl ?_ | refine w_get rfl rfl rfl rfl ?_ | refine w_nnl rfl ?_ | refine w_nnlR rfl ?_ | refine w_nul rfl ?_ | refine w_nulR rfl ?_ | refine w_ldc rfl rfl ?_ | refine w_ldc2 rfl rfl ?_ | refine w_put rfl rfl rfl (Nat.le_of_ble_eq_true rfl) (Or.inl rfl) rfl rfl ?_))
        (refine w_cv rfl rfl rfl rfl (by exact Nat.le_of_ble_eq_true rfl) (by exact Nat.le_of_ble_eq_true rfl) (r_Bd_part t 5 hb ht1 (by decide)) ?_; dsimp only [Option.toList, List.drop, List.cons_append, List.nil_append])
        (refine w_iret rfl rfl rfl ?_)
        show _ = (Sum.inl (some (Value.int (sp_part c (c.rt j).toInt.toNat 5))), _)
        rw [ht2, htt]
        try rfl
def sp_history (c : ax_St) (k w : Int32) : ax_SR :=
  if ¬ (0 ≤ k.toInt ∧ k.toInt < c.on ∧ 0 ≤ w.toInt ∧ w.toInt < 7) then .inr 0 else .inl (.int (c.parts (7 * k.toInt.toNat + w.toInt.toNat)), c)
theorem r_Or_part (k w : Nat) (hn : c.on ≤ 20) (hk : k < c.on) (hw : w < 7) : ax_run m_Or_part [.ref 18, .int (nI k), .int (nI w)] (ax_hp L xs c m o pool, u) (.inl (some (.int (c.parts (7 * k + w)))), (ax_hp L xs c m o pool, u)) := by
  (refine ax_run_T (ax_T_of M_Or_part rfl (Nat.le_of_ble_eq_true rfl) ?_))
  (repeat (first | refine w_iadd1 rfl ?_ | refine w_isub1 rfl ?_ | refine w_iinc1 rfl rfl ?_ | refine w_s rfl rfl ?_ | refine w_get rfl rfl rfl rfl ?_ | refine w_nnl rfl ?_ | refine w_nnlR rfl ?_ | refine w_nul rfl ?_ | refine w_nulR rfl ?_ | refine w_ldc rfl rfl ?_ | refine w_ldc2 rfl rfl ?_ | refine w_put rfl rfl rfl (Nat.le_of_ble_eq_true rfl) (Or.inl rfl) rfl rfl ?_))
  (refine w_cv rfl rfl rfl rfl (by exact Nat.le_of_ble_eq_true rfl) (by exact Nat.le_of_ble_eq_true rfl) (r_Or_hasNo (nI k) hn) ?_; dsimp only [Option.toList, List.drop, List.cons_append, List.nil_append])
  (repeat' (first | refine w_iadd1 rfl ?_ | refine w_isub1 rfl ?_ | refine w_iinc1 rfl rfl ?_ | refine w_s rfl rfl ?_ | refine w_get rfl rfl rfl rfl ?_ | refine w_nnl rfl ?_ | refine w_nnlR rfl ?_ | refine w_nul rfl ?_ | refine w_nulR rfl ?_ | refine w_ldc rfl rfl ?_ | refine w_ldc2 rfl rfl ?_ | refine w_put rfl rfl rfl (Nat.le_of_ble_eq_true rfl) (Or.inl rfl) rfl rfl ?_ | ((first | refine w_if2 rfl (fun _ => ?_) (fun _ => ?_) | refine w_if1 rfl (fun _ => ?_) (fun _ => ?_)) <;> try (exfalso; (((try simp only [c_eq0, c_ne0, c_Llt, c_Lle, c_Lgt, c_Lge, c_Leq, c_Lne] at *); try simp only [ax_cnd, vp_in_iff, Int32.lt_iff_toInt_lt, Int32.le_iff_toInt_le, Int64.lt_iff_toInt_lt, Int64.le_iff_toInt_le, q_eq, q_eqL, q_lg, q_nI, q_add, q_sub, q_mul, q_neg, q_addL, q_subL, q_mulL, q_negL, q_i2l, q_l2i, q_b8, q_b16, q_ofI, q_lit, q_ofNL, q_litL, ne_eq, gt_iff_lt, ge_iff_le] at *) <;> omega); done)))) <;> try (first | (refine w_thr rfl rfl rfl rfl rfl (by decide) rfl rfl ?_; rfl) | (exfalso; (((try simp only [c_eq0, c_ne0, c_Llt, c_Lle, c_Lgt, c_Lge, c_Leq, c_Lne] at *); try simp only [ax_cnd, vp_in_iff, Int32.lt_iff_toInt_lt, Int32.le_iff_toInt_le, Int64.lt_iff_toInt_lt, Int64.le_iff_toInt_le, q_eq, q_eqL, q_lg, q_nI, q_add, q_sub, q_mul, q_neg, q_addL, q_subL, q_mulL, q_negL, q_i2l, q_l2i, q_b8, q_b16, q_ofI, q_lit, q_ofNL, q_litL, ne_eq, gt_iff_lt, ge_iff_le] at *) <;> omega)))
  refine w_ia (j := 7 * k + w) rfl rfl (by (((try simp only [c_eq0, c_ne0, c_Llt, c_Lle, c_Lgt, c_Lge, c_Leq, c_Lne] at *); try simp only [ax_cnd, vp_in_iff, Int32.lt_iff_toInt_lt, Int32.le_iff_toInt_le, Int64.lt_iff_toInt_lt, Int64.le_iff_toInt_le, q_eq, q_eqL, q_lg, q_nI, q_add, q_sub, q_mul, q_neg, q_addL, q_subL, q_mulL, q_negL, q_i2l, q_l2i, q_b8, q_b16, q_ofI, q_lit, q_ofNL, q_litL, ne_eq, gt_iff_lt, ge_iff_le] at *) <;> omega)) (by omega) (by decide) ?_
  (refine w_iret rfl rfl rfl ?_); rfl
theorem r_history (k w : Int32) (hn : c.on ≤ 20) : ax_run m_ML_history [.ref 1, .int k, .int w] (ax_hp L xs c m o pool, u) (ax_out L xs m o pool u c (sp_history c k w)) := by
  unfold sp_history
  split
  · (refine ax_run_T (ax_T_of M_ML_history rfl (Nat.le_of_ble_eq_true rfl) ?_))
    (repeat (first | refine w_iadd1 rfl ?_ | refine w_isub1 rfl ?_ | refine w_iinc1 rfl rfl ?_ | refine w_s rfl rfl ?_ | refine w_get rfl rfl rfl rfl ?_ | refine w_nnl rfl ?_ | refine w_nnlR rfl ?_ | refine w_nul rfl ?_ | refine w_nulR rfl ?_ | refine w_ldc rfl rfl ?_ | refine w_ldc2 rfl rfl ?_ | refine w_put rfl rfl rfl (Nat.le_of_ble_eq_true rfl) (Or.inl rfl) rfl rfl ?_))
    (refine w_cv rfl rfl rfl rfl (by exact Nat.le_of_ble_eq_true rfl) (by exact Nat.le_of_ble_eq_true rfl) (r_Or_hasNo k hn) ?_; dsimp only [Option.toList, List.drop, List.cons_append, List.nil_append])
    (repeat' (first | refine w_iadd1 rfl ?_ | refine w_isub1 rfl ?_ | refine w_iinc1 rfl rfl ?_ | refine w_s rfl rfl ?_ | refine w_get rfl rfl rfl rfl ?_ | refine w_nnl rfl ?_ | refine w_nnlR rfl ?_ | refine w_nul rfl ?_ | refine w_nulR rfl ?_ | refine w_ldc rfl rfl ?_ | refine w_ldc2 rfl rfl ?_ | refine w_put rfl rfl rfl (Nat.le_of_ble_eq_true rfl) (Or.inl rfl) rfl rfl ?_ | ((first | refine w_if2 rfl (fun _ => ?_) (fun _ => ?_) | refine w_if1 rfl (fun _ => ?_) (fun _ => ?_)) <;> try (exfalso; (((try simp only [c_eq0, c_ne0, c_Llt, c_Lle, c_Lgt, c_Lge, c_Leq, c_Lne] at *); try simp only [ax_cnd, vp_in_iff, Int32.lt_iff_toInt_lt, Int32.le_iff_toInt_le, Int64.lt_iff_toInt_lt, Int64.le_iff_toInt_le, q_eq, q_eqL, q_lg, q_nI, q_add, q_sub, q_mul, q_neg, q_addL, q_subL, q_mulL, q_negL, q_i2l, q_l2i, q_b8, q_b16, q_ofI, q_lit, q_ofNL, q_litL, ne_eq, gt_iff_lt, ge_iff_le] at *) <;> omega); done)))) <;> (first | (refine w_thr rfl rfl rfl rfl rfl (by decide) rfl rfl ?_; rfl) | (exfalso; (((try simp only [c_eq0, c_ne0, c_Llt, c_Lle, c_Lgt, c_Lge, c_Leq, c_Lne] at *); try simp only [ax_cnd, vp_in_iff, Int32.lt_iff_toInt_lt, Int32.le_iff_toInt_le, Int64.lt_iff_toInt_lt, Int64.le_iff_toInt_le, q_eq, q_eqL, q_lg, q_nI, q_add, q_sub, q_mul, q_neg, q_addL, q_subL, q_mulL, q_negL, q_i2l, q_l2i, q_b8, q_b16, q_ofI, q_lit, q_ofNL, q_litL, ne_eq, gt_iff_lt, ge_iff_le] at *) <;> omega)))
  · rename_i h1
    obtain ⟨j, rfl, hj1, hj2⟩ := q_nat (x := k) (by omega)
    obtain ⟨v, rfl, hv1, hv2⟩ := q_nat (x := w) (by omega)
    rw [← hj1, ← hv1]
    (refine ax_run_T (ax_T_of M_ML_history rfl (Nat.le_of_ble_eq_true rfl) ?_))
    (repeat (first | refine w_iadd1 rfl ?_ | refine w_isub1 rfl ?_ | refine w_iinc1 rfl rfl ?_ | refine w_s rfl rfl ?_ | refine w_get rfl rfl rfl rfl ?_ | refine w_nnl rfl ?_ | refine w_nnlR rfl ?_ | refine w_nul rfl ?_ | refine w_nulR rfl ?_ | refine w_ldc rfl rfl ?_ | refine w_ldc2 rfl rfl ?_ | refine w_put rfl rfl rfl (Nat.le_of_ble_eq_true rfl) (Or.inl rfl) rfl rfl ?_))
    (refine w_cv rfl rfl rfl rfl (by exact Nat.le_of_ble_eq_true rfl) (by exact Nat.le_of_ble_eq_true rfl) (r_Or_hasNo (nI j) hn) ?_; dsimp only [Option.toList, List.drop, List.cons_append, List.nil_append])
    (repeat' (first | refine w_iadd1 rfl ?_ | refine w_isub1 rfl ?_ | refine w_iinc1 rfl rfl ?_ | refine w_s rfl rfl ?_ | refine w_get rfl rfl rfl rfl ?_ | refine w_nnl rfl ?_ | refine w_nnlR rfl ?_ | refine w_nul rfl ?_ | refine w_nulR rfl ?_ | refine w_ldc rfl rfl ?_ | refine w_ldc2 rfl rfl ?_ | refine w_put rfl rfl rfl (Nat.le_of_ble_eq_true rfl) (Or.inl rfl) rfl rfl ?_ | ((first | refine w_if2 rfl (fun _ => ?_) (fun _ => ?_) | refine w_if1 rfl (fun _ => ?_) (fun _ => ?_)) <;> try (exfalso; (((try simp only [c_eq0, c_ne0, c_Llt, c_Lle, c_Lgt, c_Lge, c_Leq, c_Lne] at *); try simp only [ax_cnd, vp_in_iff, Int32.lt_iff_toInt_lt, Int32.le_iff_toInt_le, Int64.lt_iff_toInt_lt, Int64.le_iff_toInt_le, q_eq, q_eqL, q_lg, q_nI, q_add, q_sub, q_mul, q_neg, q_addL, q_subL, q_mulL, q_negL, q_i2l, q_l2i, q_b8, q_b16, q_ofI, q_lit, q_ofNL, q_litL, ne_eq, gt_iff_lt, ge_iff_le] at *) <;> omega); done)))) <;> try (first | (refine w_thr rfl rfl rfl rfl rfl (by decide) rfl rfl ?_; rfl) | (exfalso; (((try simp only [c_eq0, c_ne0, c_Llt, c_Lle, c_Lgt, c_Lge, c_Leq, c_Lne] at *); try simp only [ax_cnd, vp_in_iff, Int32.lt_iff_toInt_lt, Int32.le_iff_toInt_le, Int64.lt_iff_toInt_lt, Int64.le_iff_toInt_le, q_eq, q_eqL, q_lg, q_nI, q_add, q_sub, q_mul, q_neg, q_addL, q_subL, q_mulL, q_negL, q_i2l, q_l2i, q_b8, q_b16, q_ofI, q_lit, q_ofNL, q_litL, ne_eq, gt_iff_lt, ge_iff_le] at *) <;> omega)))
    (refine w_cv rfl rfl rfl rfl (by exact Nat.le_of_ble_eq_true rfl) (by exact Nat.le_of_ble_eq_true rfl) (r_Or_part j v hn (by omega) (by omega)) ?_; dsimp only [Option.toList, List.drop, List.cons_append, List.nil_append])
    (refine w_iret rfl rfl rfl ?_); rfl
end CB
end
section
section CC
variable {L : Nat} {xs : Nat → Int32} {c : ax_St} {m : ax_Mo} {o : Nat → Int64} {pool : List (Option ax_C)} {u : Nat} {h : ax_H}
def sp_share (c : ax_St) (a q : Int64) (k : Int32) : ax_SR :=
  if ¬ (1 ≤ q.toInt ∧ q.toInt ≤ 1000000 ∧ 0 ≤ a.toInt) then .inr 1 else if ¬ (0 ≤ k.toInt ∧ k.toInt < q.toInt) then .inr 0 else .inl (.long (a / q + (if k.toInt < (a - a / q * q).toInt then 1 else 0)), c)
theorem r_share (a q : Int64) (k : Int32) : ax_run m_ML_share [.ref 1, .long a, .long q, .int k] (ax_hp L xs c m o pool, u) (ax_out L xs m o pool u c (sp_share c a q k)) := by
  unfold sp_share
  split
  · (refine ax_run_T (ax_T_of M_ML_share rfl (Nat.le_of_ble_eq_true rfl) ?_))
    (repeat' (first | refine w_iadd1 rfl ?_ | refine w_isub1 rfl ?_ | refine w_iinc1 rfl rfl ?_ | refine w_s rfl rfl ?_ | refine w_get rfl rfl rfl rfl ?_ | refine w_nnl rfl ?_ | refine w_nnlR rfl ?_ | refine w_nul rfl ?_ | refine w_nulR rfl ?_ | refine w_ldc rfl rfl ?_ | refine w_ldc2 rfl rfl ?_ | refine w_put rfl rfl rfl (Nat.le_of_ble_eq_true rfl) (Or.inl rfl) rfl rfl ?_ | ((first | refine w_if2 rfl (fun _ => ?_) (fun _ => ?_) | refine w_if1 rfl (fun _ => ?_) (fun _ => ?_)) <;> try (exfalso; (((try simp only [c_eq0, c_ne0, c_Llt, c_Lle, c_Lgt, c_Lge, c_Leq, c_Lne] at *); try simp only [ax_cnd, vp_in_iff, Int32.lt_iff_toInt_lt, Int32.le_iff_toInt_le, Int64.lt_iff_toInt_lt, Int64.le_iff_toInt_le, q_eq, q_eqL, q_lg, q_nI, q_add, q_sub, q_mul, q_neg, q_addL, q_subL, q_mulL, q_negL, q_i2l, q_l2i, q_b8, q_b16, q_ofI, q_lit, q_ofNL, q_litL, ne_eq, gt_iff_lt, ge_iff_le] at *) <;> omega); done)))) <;> try (first | (refine w_thr rfl rfl rfl rfl rfl (by decide) rfl rfl ?_; rfl) | (exfalso; (((try simp only [c_eq0, c_ne0, c_Llt, c_Lle, c_Lgt, c_Lge, c_Leq, c_Lne] at *); try simp only [ax_cnd, vp_in_iff, Int32.lt_iff_toInt_lt, Int32.le_iff_toInt_le, Int64.lt_iff_toInt_lt, Int64.le_iff_toInt_le, q_eq, q_eqL, q_lg, q_nI, q_add, q_sub, q_mul, q_neg, q_addL, q_subL, q_mulL, q_negL, q_i2l, q_l2i, q_b8, q_b16, q_ofI, q_lit, q_ofNL, q_litL, ne_eq, gt_iff_lt, ge_iff_le] at *) <;> omega)))
    all_goals (exfalso; (((try simp only [c_eq0, c_ne0, c_Llt, c_Lle, c_Lgt, c_Lge, c_Leq, c_Lne] at *); try simp only [ax_cnd, vp_in_iff, Int32.lt_iff_toInt_lt, Int32.le_iff_toInt_le, Int64.lt_iff_toInt_lt, Int64.le_iff_toInt_le, q_eq, q_eqL, q_lg, q_nI, q_add, q_sub, q_mul, q_neg, q_addL, q_subL, q_mulL, q_negL, q_i2l, q_l2i, q_b8, q_b16, q_ofI, q_lit, q_ofNL, q_litL, ne_eq, gt_iff_lt, ge_iff_le] at *) <;> omega))
  · split
    · (refine ax_run_T (ax_T_of M_ML_share rfl (Nat.le_of_ble_eq_true rfl) ?_))
      (repeat' (first | refine w_iadd1 rfl ?_ | refine w_isub1 rfl ?_ | refine w_iinc1 rfl rfl ?_ | refine w_s rfl rfl ?_ | refine w_get rfl rfl rfl rfl ?_ | refine w_nnl rfl ?_ | refine w_nnlR rfl ?_ | refine w_nul rfl ?_ | refine w_nulR rfl ?_ | refine w_ldc rfl rfl ?_ | refine w_ldc2 rfl rfl ?_ | refine w_put rfl rfl rfl (Nat.le_of_ble_eq_true rfl) (Or.inl rfl) rfl rfl ?_ | ((first | refine w_if2 rfl (fun _ => ?_) (fun _ => ?_) | refine w_if1 rfl (fun _ => ?_) (fun _ => ?_)) <;> try (exfalso; (((try simp only [c_eq0, c_ne0, c_Llt, c_Lle, c_Lgt, c_Lge, c_Leq, c_Lne] at *); try simp only [ax_cnd, vp_in_iff, Int32.lt_iff_toInt_lt, Int32.le_iff_toInt_le, Int64.lt_iff_toInt_lt, Int64.le_iff_toInt_le, q_eq, q_eqL, q_lg, q_nI, q_add, q_sub, q_mul, q_neg, q_addL, q_subL, q_mulL, q_negL, q_i2l, q_l2i, q_b8, q_b16, q_ofI, q_lit, q_ofNL, q_litL, ne_eq, gt_iff_lt, ge_iff_le] at *) <;> omega); done)))) <;> try (first | (refine w_thr rfl rfl rfl rfl rfl (by decide) rfl rfl ?_; rfl) | (exfalso; (((try simp only [c_eq0, c_ne0, c_Llt, c_Lle, c_Lgt, c_Lge, c_Leq, c_Lne] at *); try simp only [ax_cnd, vp_in_iff, Int32.lt_iff_toInt_lt, Int32.le_iff_toInt_le, Int64.lt_iff_toInt_lt, Int64.le_iff_toInt_le, q_eq, q_eqL, q_lg, q_nI, q_add, q_sub, q_mul, q_neg, q_addL, q_subL, q_mulL, q_negL, q_i2l, q_l2i, q_b8, q_b16, q_ofI, q_lit, q_ofNL, q_litL, ne_eq, gt_iff_lt, ge_iff_le] at *) <;> omega)))
      all_goals (exfalso; (((try simp only [c_eq0, c_ne0, c_Llt, c_Lle, c_Lgt, c_Lge, c_Leq, c_Lne] at *); try simp only [ax_cnd, vp_in_iff, Int32.lt_iff_toInt_lt, Int32.le_iff_toInt_le, Int64.lt_iff_toInt_lt, Int64.le_iff_toInt_le, q_eq, q_eqL, q_lg, q_nI, q_add, q_sub, q_mul, q_neg, q_addL, q_subL, q_mulL, q_negL, q_i2l, q_l2i, q_b8, q_b16, q_ofI, q_lit, q_ofNL, q_litL, ne_eq, gt_iff_lt, ge_iff_le] at *) <;> omega))
    · (refine ax_run_T (ax_T_of M_ML_share rfl (Nat.le_of_ble_eq_true rfl) ?_))
      (repeat' (first | refine w_iadd1 rfl ?_ | refine w_isub1 rfl ?_ | refine w_iinc1 rfl rfl ?_ | refine w_s rfl rfl ?_ | refine w_get rfl rfl rfl rfl ?_ | refine w_nnl rfl ?_ | refine w_nnlR rfl ?_ | refine w_nul rfl ?_ | refine w_nulR rfl ?_ | refine w_ldc rfl rfl ?_ | refine w_ldc2 rfl rfl ?_ | refine w_put rfl rfl rfl (Nat.le_of_ble_eq_true rfl) (Or.inl rfl) rfl rfl ?_ | ((first | refine w_if2 rfl (fun _ => ?_) (fun _ => ?_) | refine w_if1 rfl (fun _ => ?_) (fun _ => ?_)) <;> try (exfalso; (((try simp only [c_eq0, c_ne0, c_Llt, c_Lle, c_Lgt, c_Lge, c_Leq, c_Lne] at *); try simp only [ax_cnd, vp_in_iff, Int32.lt_iff_toInt_lt, Int32.le_iff_toInt_le, Int64.lt_iff_toInt_lt, Int64.le_iff_toInt_le, q_eq, q_eqL, q_lg, q_nI, q_add, q_sub, q_mul, q_neg, q_addL, q_subL, q_mulL, q_negL, q_i2l, q_l2i, q_b8, q_b16, q_ofI, q_lit, q_ofNL, q_litL, ne_eq, gt_iff_lt, ge_iff_le] at *) <;> omega); done)))) <;> try (first | (refine w_thr rfl rfl rfl rfl rfl (by decide) rfl rfl ?_; rfl) | (exfalso; (((try simp only [c_eq0, c_ne0, c_Llt, c_Lle, c_Lgt, c_Lge, c_Leq, c_Lne] at *); try simp only [ax_cnd, vp_in_iff, Int32.lt_iff_toInt_lt, Int32.le_iff_toInt_le, Int64.lt_iff_toInt_lt, Int64.le_iff_toInt_le, q_eq, q_eqL, q_lg, q_nI, q_add, q_sub, q_mul, q_neg, q_addL, q_subL, q_mulL, q_negL, q_i2l, q_l2i, q_b8, q_b16, q_ofI, q_lit, q_ofNL, q_litL, ne_eq, gt_iff_lt, ge_iff_le] at *) <;> omega)))
      refine w_lrem rfl (by (((try simp only [c_eq0, c_ne0, c_Llt, c_Lle, c_Lgt, c_Lge, c_Leq, c_Lne] at *); try simp only [ax_cnd, vp_in_iff, Int32.lt_iff_toInt_lt, Int32.le_iff_toInt_le, Int64.lt_iff_toInt_lt, Int64.le_iff_toInt_le, q_eq, q_eqL, q_lg, q_nI, q_add, q_sub, q_mul, q_neg, q_addL, q_subL, q_mulL, q_negL, q_i2l, q_l2i, q_b8, q_b16, q_ofI, q_lit, q_ofNL, q_litL, ne_eq, gt_iff_lt, ge_iff_le] at *) <;> omega)) ?_
      (repeat (first | refine w_iadd1 rfl ?_ | refine w_isub1 rfl ?_ | refine w_iinc1 rfl rfl ?_ | refine w_s rfl rfl ?_ | refine w_get rfl rfl rfl rfl ?_ | refine w_nnl rfl ?_ | refine w_nnlR rfl ?_ | refine w_nul rfl ?_ | refine w_nulR rfl ?_ | refine w_ldc rfl rfl ?_ | refine w_ldc2 rfl rfl ?_ | refine w_put rfl rfl rfl (Nat.le_of_ble_eq_true rfl) (Or.inl rfl) rfl rfl ?_))
      refine w_ldiv rfl (by (((try simp only [c_eq0, c_ne0, c_Llt, c_Lle, c_Lgt, c_Lge, c_Leq, c_Lne] at *); try simp only [ax_cnd, vp_in_iff, Int32.lt_iff_toInt_lt, Int32.le_iff_toInt_le, Int64.lt_iff_toInt_lt, Int64.le_iff_toInt_le, q_eq, q_eqL, q_lg, q_nI, q_add, q_sub, q_mul, q_neg, q_addL, q_subL, q_mulL, q_negL, q_i2l, q_l2i, q_b8, q_b16, q_ofI, q_lit, q_ofNL, q_litL, ne_eq, gt_iff_lt, ge_iff_le] at *) <;> omega)) ?_
      (repeat (first | refine w_iadd1 rfl ?_ | refine w_isub1 rfl ?_ | refine w_iinc1 rfl rfl ?_ | refine w_s rfl rfl ?_ | refine w_get rfl rfl rfl rfl ?_ | refine w_nnl rfl ?_ | refine w_nnlR rfl ?_ | refine w_nul rfl ?_ | refine w_nulR rfl ?_ | refine w_ldc rfl rfl ?_ | refine w_ldc2 rfl rfl ?_ | refine w_put rfl rfl rfl (Nat.le_of_ble_eq_true rfl) (Or.inl rfl) rfl rfl ?_))
      refine w_if1 rfl (fun h1 => ?_) (fun h1 => ?_)
      · (repeat (first | refine w_iadd1 rfl ?_ | refine w_isub1 rfl ?_ | refine w_iinc1 rfl rfl ?_ | refine w_s rfl rfl ?_ | refine w_get rfl rfl rfl rfl ?_ | refine w_nnl rfl ?_ | refine w_nnlR rfl ?_ | refine w_nul rfl ?_ | refine w_nulR rfl ?_ | refine w_ldc rfl rfl ?_ | refine w_ldc2 rfl rfl ?_ | refine w_put rfl rfl rfl (Nat.le_of_ble_eq_true rfl) (Or.inl rfl) rfl rfl ?_))
        refine w_lret rfl rfl ?_
        rw [if_neg (by have h2 := (lg_cmp_ge _ _).mp h1; rw [Int64.le_iff_toInt_le, q_i2l] at h2; omega)]
        rfl
      · (repeat (first | refine w_iadd1 rfl ?_ | refine w_isub1 rfl ?_ | refine w_iinc1 rfl rfl ?_ | refine w_s rfl rfl ?_ | refine w_get rfl rfl rfl rfl ?_ | refine w_nnl rfl ?_ | refine w_nnlR rfl ?_ | refine w_nul rfl ?_ | refine w_nulR rfl ?_ | refine w_ldc rfl rfl ?_ | refine w_ldc2 rfl rfl ?_ | refine w_put rfl rfl rfl (Nat.le_of_ble_eq_true rfl) (Or.inl rfl) rfl rfl ?_))
        refine w_lret rfl rfl ?_
        rw [if_pos (by have h2 : ¬ (a - a / q * q ≤ k.toInt64) := fun z => h1 ((lg_cmp_ge _ _).mpr z); rw [Int64.le_iff_toInt_le, q_i2l] at h2; omega)]
        rfl
def sp_copper (c : ax_St) (l k : Int32) (a b : Int64) : ax_SR :=
  if ¬ (0 ≤ l.toInt ∧ l.toInt < 8 ∧ 0 ≤ k.toInt ∧ k.toInt < 16) then .inr 0 else if ¬ (1 ≤ b.toInt ∧ b.toInt ≤ 10 ∧ 0 ≤ a.toInt ∧ a.toInt ≤ b.toInt) then .inr 1
  else .inl (.int (bI (¬ (c.ab (16 * l.toInt.toNat + k.toInt.toNat) = a.toInt32 ∧ c.be (16 * l.toInt.toNat + k.toInt.toNat) = b.toInt32))), (ax_St.u_be (ax_St.u_ab c (upd c.ab (16 * l.toInt.toNat + k.toInt.toNat) a.toInt32)) (upd c.be (16 * l.toInt.toNat + k.toInt.toNat) b.toInt32)))
theorem r_Ce_tell (l k : Nat) (x y : Int32) (hl : l < 8) (hk : k < 16) : ax_run m_Ce_tell [.ref 20, .int (nI l), .int (nI k), .int x, .int y] (ax_hp L xs c m o pool, u) (.inl (some (.int (bI (¬ (c.ab (16 * l + k) = x ∧ c.be (16 * l + k) = y))))), (ax_hp L xs (ax_St.u_be (ax_St.u_ab c (upd c.ab (16 * l + k) x)) (upd c.be (16 * l + k) y)) m o pool, u)) := by
  (refine ax_run_T (ax_T_of M_Ce_tell rfl (Nat.le_of_ble_eq_true rfl) ?_))
  (repeat (first | refine w_iadd1 rfl ?_ | refine w_isub1 rfl ?_ | refine w_iinc1 rfl rfl ?_ | refine w_s rfl rfl ?_ | refine w_get rfl rfl rfl rfl ?_ | refine w_nnl rfl ?_ | refine w_nnlR rfl ?_ | refine w_nul rfl ?_ | refine w_nulR rfl ?_ | refine w_ldc rfl rfl ?_ | refine w_ldc2 rfl rfl ?_ | refine w_put rfl rfl rfl (Nat.le_of_ble_eq_true rfl) (Or.inl rfl) rfl rfl ?_))
  (refine w_cs rfl rfl (by first | decide | exact Nat.le_of_ble_eq_true rfl) (by exact Nat.le_of_ble_eq_true rfl) (r_noLayer (nI l)) ?_; dsimp only [Option.toList, List.drop, List.cons_append, List.nil_append])
  (repeat' (first | refine w_iadd1 rfl ?_ | refine w_isub1 rfl ?_ | refine w_iinc1 rfl rfl ?_ | refine w_s rfl rfl ?_ | refine w_get rfl rfl rfl rfl ?_ | refine w_nnl rfl ?_ | refine w_nnlR rfl ?_ | refine w_nul rfl ?_ | refine w_nulR rfl ?_ | refine w_ldc rfl rfl ?_ | refine w_ldc2 rfl rfl ?_ | refine w_put rfl rfl rfl (Nat.le_of_ble_eq_true rfl) (Or.inl rfl) rfl rfl ?_ | ((first | refine w_if2 rfl (fun _ => ?_) (fun _ => ?_) | refine w_if1 rfl (fun _ => ?_) (fun _ => ?_)) <;> try (exfalso; (((try simp only [c_eq0, c_ne0, c_Llt, c_Lle, c_Lgt, c_Lge, c_Leq, c_Lne] at *); try simp only [ax_cnd, vp_in_iff, Int32.lt_iff_toInt_lt, Int32.le_iff_toInt_le, Int64.lt_iff_toInt_lt, Int64.le_iff_toInt_le, q_eq, q_eqL, q_lg, q_nI, q_add, q_sub, q_mul, q_neg, q_addL, q_subL, q_mulL, q_negL, q_i2l, q_l2i, q_b8, q_b16, q_ofI, q_lit, q_ofNL, q_litL, ne_eq, gt_iff_lt, ge_iff_le] at *) <;> omega); done)))) <;> try (first | (refine w_thr rfl rfl rfl rfl rfl (by decide) rfl rfl ?_; rfl) | (exfalso; (((try simp only [c_eq0, c_ne0, c_Llt, c_Lle, c_Lgt, c_Lge, c_Leq, c_Lne] at *); try simp only [ax_cnd, vp_in_iff, Int32.lt_iff_toInt_lt, Int32.le_iff_toInt_le, Int64.lt_iff_toInt_lt, Int64.le_iff_toInt_le, q_eq, q_eqL, q_lg, q_nI, q_add, q_sub, q_mul, q_neg, q_addL, q_subL, q_mulL, q_negL, q_i2l, q_l2i, q_b8, q_b16, q_ofI, q_lit, q_ofNL, q_litL, ne_eq, gt_iff_lt, ge_iff_le] at *) <;> omega)))
  (refine w_cs rfl rfl (by first | decide | exact Nat.le_of_ble_eq_true rfl) (by exact Nat.le_of_ble_eq_true rfl) (r_noCell (nI k)) ?_; dsimp only [Option.toList, List.drop, List.cons_append, List.nil_append])
  (repeat ((fail_if_success (show ax_wp _ _ _ 11 _ _ _)); (first | refine w_iadd1 rfl ?_ | refine w_isub1 rfl ?_ | refine w_iinc1 rfl rfl ?_ | refine w_s rfl rfl ?_ | refine w_get rfl rfl rfl rfl ?_ | refine w_nnl rfl ?_ | refine w_nnlR rfl ?_ | refine w_nul rfl ?_ | refine w_nulR rfl ?_ | refine w_ldc rfl rfl ?_ | refine w_ldc2 rfl rfl ?_ | refine w_put rfl rfl rfl (Nat.le_of_ble_eq_true rfl) (Or.inl rfl) rfl rfl ?_)))
  (first | refine w_if2 rfl (fun _ => ?_) (fun _ => ?_) | refine w_if1 rfl (fun _ => ?_) (fun _ => ?_))
  · (repeat ((fail_if_success (show ax_wp _ _ _ 22 _ _ _)); (first | refine w_iadd1 rfl ?_ | refine w_isub1 rfl ?_ | refine w_iinc1 rfl rfl ?_ | refine w_s rfl rfl ?_ | refine w_get rfl rfl rfl rfl ?_ | refine w_nnl rfl ?_ | refine w_nnlR rfl ?_ | refine w_nul rfl ?_ | refine w_nulR rfl ?_ | refine w_ldc rfl rfl ?_ | refine w_ldc2 rfl rfl ?_ | refine w_put rfl rfl rfl (Nat.le_of_ble_eq_true rfl) (Or.inl rfl) rfl rfl ?_)))
    refine w_eqI (y := nI (16 * l + k)) (by (((try simp only [c_eq0, c_ne0, c_Llt, c_Lle, c_Lgt, c_Lge, c_Leq, c_Lne] at *); try simp only [ax_cnd, vp_in_iff, Int32.lt_iff_toInt_lt, Int32.le_iff_toInt_le, Int64.lt_iff_toInt_lt, Int64.le_iff_toInt_le, q_eq, q_eqL, q_lg, q_nI, q_add, q_sub, q_mul, q_neg, q_addL, q_subL, q_mulL, q_negL, q_i2l, q_l2i, q_b8, q_b16, q_ofI, q_lit, q_ofNL, q_litL, ne_eq, gt_iff_lt, ge_iff_le] at *) <;> omega)) ?_
    (repeat (first | refine w_iadd1 rfl ?_ | refine w_isub1 rfl ?_ | refine w_iinc1 rfl rfl ?_ | refine w_s rfl rfl ?_ | refine w_get rfl rfl rfl rfl ?_ | refine w_nnl rfl ?_ | refine w_nnlR rfl ?_ | refine w_nul rfl ?_ | refine w_nulR rfl ?_ | refine w_ldc rfl rfl ?_ | refine w_ldc2 rfl rfl ?_ | refine w_put rfl rfl rfl (Nat.le_of_ble_eq_true rfl) (Or.inl rfl) rfl rfl ?_))
    refine w_ia rfl rfl rfl (by omega) (by decide) ?_
    have fin : ∀ (b : Int32), b = bI (¬ (c.ab (16 * l + k) = x ∧ c.be (16 * l + k) = y)) → ax_wp ax_run M_Ce_tell (fun r' => r' = (.inl (some (.int (bI (¬ (c.ab (16 * l + k) = x ∧ c.be (16 * l + k) = y))))), (ax_hp L xs (ax_St.u_be (ax_St.u_ab c (upd c.ab (16 * l + k) x)) (upd c.be (16 * l + k) y)) m o pool, u))) 54 [(6, .int b), (0, .ref 20), (5, .int (nI (16 * l + k))), (3, .int x), (4, .int y)] [] (ax_hp L xs c m o pool, u) := by
      intro b hb
      (repeat (first | refine w_iadd1 rfl ?_ | refine w_isub1 rfl ?_ | refine w_iinc1 rfl rfl ?_ | refine w_s rfl rfl ?_ | refine w_get rfl rfl rfl rfl ?_ | refine w_nnl rfl ?_ | refine w_nnlR rfl ?_ | refine w_nul rfl ?_ | refine w_nulR rfl ?_ | refine w_ldc rfl rfl ?_ | refine w_ldc2 rfl rfl ?_ | refine w_put rfl rfl rfl (Nat.le_of_ble_eq_true rfl) (Or.inl rfl) rfl rfl ?_))
      refine w_ias rfl rfl rfl (by omega) (by decide) ?_
      (repeat (first | refine w_iadd1 rfl ?_ | refine w_isub1 rfl ?_ | refine w_iinc1 rfl rfl ?_ | refine w_s rfl rfl ?_ | refine w_get rfl rfl rfl rfl ?_ | refine w_nnl rfl ?_ | refine w_nnlR rfl ?_ | refine w_nul rfl ?_ | refine w_nulR rfl ?_ | refine w_ldc rfl rfl ?_ | refine w_ldc2 rfl rfl ?_ | refine w_put rfl rfl rfl (Nat.le_of_ble_eq_true rfl) (Or.inl rfl) rfl rfl ?_))
      refine w_ias rfl rfl rfl (by omega) (by decide) ?_
      (repeat (first | refine w_iadd1 rfl ?_ | refine w_isub1 rfl ?_ | refine w_iinc1 rfl rfl ?_ | refine w_s rfl rfl ?_ | refine w_get rfl rfl rfl rfl ?_ | refine w_nnl rfl ?_ | refine w_nnlR rfl ?_ | refine w_nul rfl ?_ | refine w_nulR rfl ?_ | refine w_ldc rfl rfl ?_ | refine w_ldc2 rfl rfl ?_ | refine w_put rfl rfl rfl (Nat.le_of_ble_eq_true rfl) (Or.inl rfl) rfl rfl ?_))
      refine w_iret rfl rfl (by rw [hb]; exact bI_nar) ?_
      rw [hb]
      rfl
    (repeat (first | refine w_iadd1 rfl ?_ | refine w_isub1 rfl ?_ | refine w_iinc1 rfl rfl ?_ | refine w_s rfl rfl ?_ | refine w_get rfl rfl rfl rfl ?_ | refine w_nnl rfl ?_ | refine w_nnlR rfl ?_ | refine w_nul rfl ?_ | refine w_nulR rfl ?_ | refine w_ldc rfl rfl ?_ | refine w_ldc2 rfl rfl ?_ | refine w_put rfl rfl rfl (Nat.le_of_ble_eq_true rfl) (Or.inl rfl) rfl rfl ?_))
    refine w_if2 rfl (fun h1 => ?_) (fun h1 => ?_)
    · (repeat ((fail_if_success (show ax_wp _ _ _ 54 _ _ _)); (first | refine w_iadd1 rfl ?_ | refine w_isub1 rfl ?_ | refine w_iinc1 rfl rfl ?_ | refine w_s rfl rfl ?_ | refine w_get rfl rfl rfl rfl ?_ | refine w_nnl rfl ?_ | refine w_nnlR rfl ?_ | refine w_nul rfl ?_ | refine w_nulR rfl ?_ | refine w_ldc rfl rfl ?_ | refine w_ldc2 rfl rfl ?_ | refine w_put rfl rfl rfl (Nat.le_of_ble_eq_true rfl) (Or.inl rfl) rfl rfl ?_)))
      exact w_lv (fin (Int32.ofInt 1) (bI_t (P := ¬ (c.ab (16 * l + k) = x ∧ c.be (16 * l + k) = y)) (fun z => h1 z.1)).symm) rfl ⟨rfl, rfl, rfl, rfl, rfl, trivial⟩
    · (repeat (first | refine w_iadd1 rfl ?_ | refine w_isub1 rfl ?_ | refine w_iinc1 rfl rfl ?_ | refine w_s rfl rfl ?_ | refine w_get rfl rfl rfl rfl ?_ | refine w_nnl rfl ?_ | refine w_nnlR rfl ?_ | refine w_nul rfl ?_ | refine w_nulR rfl ?_ | refine w_ldc rfl rfl ?_ | refine w_ldc2 rfl rfl ?_ | refine w_put rfl rfl rfl (Nat.le_of_ble_eq_true rfl) (Or.inl rfl) rfl rfl ?_))
      refine w_ia rfl rfl rfl (by omega) (by decide) ?_
      (repeat (first | refine w_iadd1 rfl ?_ | refine w_isub1 rfl ?_ | refine w_iinc1 rfl rfl ?_ | refine w_s rfl rfl ?_ | refine w_get rfl rfl rfl rfl ?_ | refine w_nnl rfl ?_ | refine w_nnlR rfl ?_ | refine w_nul rfl ?_ | refine w_nulR rfl ?_ | refine w_ldc rfl rfl ?_ | refine w_ldc2 rfl rfl ?_ | refine w_put rfl rfl rfl (Nat.le_of_ble_eq_true rfl) (Or.inl rfl) rfl rfl ?_))
      refine w_if2 rfl (fun h2 => ?_) (fun h2 => ?_)
      · (repeat ((fail_if_success (show ax_wp _ _ _ 54 _ _ _)); (first | refine w_iadd1 rfl ?_ | refine w_isub1 rfl ?_ | refine w_iinc1 rfl rfl ?_ | refine w_s rfl rfl ?_ | refine w_get rfl rfl rfl rfl ?_ | refine w_nnl rfl ?_ | refine w_nnlR rfl ?_ | refine w_nul rfl ?_ | refine w_nulR rfl ?_ | refine w_ldc rfl rfl ?_ | refine w_ldc2 rfl rfl ?_ | refine w_put rfl rfl rfl (Nat.le_of_ble_eq_true rfl) (Or.inl rfl) rfl rfl ?_)))
        exact w_lv (fin (Int32.ofInt 0) (bI_f (fun z => z ⟨Decidable.not_not.mp h1, h2⟩)).symm) rfl ⟨rfl, rfl, rfl, rfl, rfl, trivial⟩
      · (repeat ((fail_if_success (show ax_wp _ _ _ 54 _ _ _)); (first | refine w_iadd1 rfl ?_ | refine w_isub1 rfl ?_ | refine w_iinc1 rfl rfl ?_ | refine w_s rfl rfl ?_ | refine w_get rfl rfl rfl rfl ?_ | refine w_nnl rfl ?_ | refine w_nnlR rfl ?_ | refine w_nul rfl ?_ | refine w_nulR rfl ?_ | refine w_ldc rfl rfl ?_ | refine w_ldc2 rfl rfl ?_ | refine w_put rfl rfl rfl (Nat.le_of_ble_eq_true rfl) (Or.inl rfl) rfl rfl ?_)))
        exact w_lv (fin (Int32.ofInt 1) (bI_t (P := ¬ (c.ab (16 * l + k) = x ∧ c.be (16 * l + k) = y)) (fun z => h2 z.2)).symm) rfl ⟨rfl, rfl, rfl, rfl, rfl, trivial⟩
  · exfalso; (((try simp only [c_eq0, c_ne0, c_Llt, c_Lle, c_Lgt, c_Lge, c_Leq, c_Lne] at *); try simp only [ax_cnd, vp_in_iff, Int32.lt_iff_toInt_lt, Int32.le_iff_toInt_le, Int64.lt_iff_toInt_lt, Int64.le_iff_toInt_le, q_eq, q_eqL, q_lg, q_nI, q_add, q_sub, q_mul, q_neg, q_addL, q_subL, q_mulL, q_negL, q_i2l, q_l2i, q_b8, q_b16, q_ofI, q_lit, q_ofNL, q_litL, ne_eq, gt_iff_lt, ge_iff_le] at *) <;> omega)
theorem r_copper (l k : Int32) (a b : Int64) : ax_run m_ML_copper [.ref 1, .int l, .int k, .long a, .long b] (ax_hp L xs c m o pool, u) (ax_out L xs m o pool u c (sp_copper c l k a b)) := by
  unfold sp_copper
  split
  · (refine ax_run_T (ax_T_of M_ML_copper rfl (Nat.le_of_ble_eq_true rfl) ?_))
    (repeat (first | refine w_iadd1 rfl ?_ | refine w_isub1 rfl ?_ | refine w_iinc1 rfl rfl ?_ | refine w_s rfl rfl ?_ | refine w_get rfl rfl rfl rfl ?_ | refine w_nnl rfl ?_ | refine w_nnlR rfl ?_ | refine w_nul rfl ?_ | refine w_nulR rfl ?_ | refine w_ldc rfl rfl ?_ | refine w_ldc2 rfl rfl ?_ | refine w_put rfl rfl rfl (Nat.le_of_ble_eq_true rfl) (Or.inl rfl) rfl rfl ?_))
    (refine w_cs rfl rfl (by first | decide | exact Nat.le_of_ble_eq_true rfl) (by exact Nat.le_of_ble_eq_true rfl) (r_noLayer l) ?_; dsimp only [Option.toList, List.drop, List.cons_append, List.nil_append])
    (repeat' (first | refine w_iadd1 rfl ?_ | refine w_isub1 rfl ?_ | refine w_iinc1 rfl rfl ?_ | refine w_s rfl rfl ?_ | refine w_get rfl rfl rfl rfl ?_ | refine w_nnl rfl ?_ | refine w_nnlR rfl ?_ | refine w_nul rfl ?_ | refine w_nulR rfl ?_ | refine w_ldc rfl rfl ?_ | refine w_ldc2 rfl rfl ?_ | refine w_put rfl rfl rfl (Nat.le_of_ble_eq_true rfl) (Or.inl rfl) rfl rfl ?_ | ((first | refine w_if2 rfl (fun _ => ?_) (fun _ => ?_) | refine w_if1 rfl (fun _ => ?_) (fun _ => ?_)) <;> try (exfalso; (((try simp only [c_eq0, c_ne0, c_Llt, c_Lle, c_Lgt, c_Lge, c_Leq, c_Lne] at *); try simp only [ax_cnd, vp_in_iff, Int32.lt_iff_toInt_lt, Int32.le_iff_toInt_le, Int64.lt_iff_toInt_lt, Int64.le_iff_toInt_le, q_eq, q_eqL, q_lg, q_nI, q_add, q_sub, q_mul, q_neg, q_addL, q_subL, q_mulL, q_negL, q_i2l, q_l2i, q_b8, q_b16, q_ofI, q_lit, q_ofNL, q_litL, ne_eq, gt_iff_lt, ge_iff_le] at *) <;> omega); done)))) <;> try (first | (refine w_thr rfl rfl rfl rfl rfl (by decide) rfl rfl ?_; rfl) | (exfalso; (((try simp only [c_eq0, c_ne0, c_Llt, c_Lle, c_Lgt, c_Lge, c_Leq, c_Lne] at *); try simp only [ax_cnd, vp_in_iff, Int32.lt_iff_toInt_lt, Int32.le_iff_toInt_le, Int64.lt_iff_toInt_lt, Int64.le_iff_toInt_le, q_eq, q_eqL, q_lg, q_nI, q_add, q_sub, q_mul, q_neg, q_addL, q_subL, q_mulL, q_negL, q_i2l, q_l2i, q_b8, q_b16, q_ofI, q_lit, q_ofNL, q_litL, ne_eq, gt_iff_lt, ge_iff_le] at *) <;> omega)))
    (refine w_cs rfl rfl (by first | decide | exact Nat.le_of_ble_eq_true rfl) (by exact Nat.le_of_ble_eq_true rfl) (r_noCell k) ?_; dsimp only [Option.toList, List.drop, List.cons_append, List.nil_append])
    (repeat' (first | refine w_iadd1 rfl ?_ | refine w_isub1 rfl ?_ | refine w_iinc1 rfl rfl ?_ | refine w_s rfl rfl ?_ | refine w_get rfl rfl rfl rfl ?_ | refine w_nnl rfl ?_ | refine w_nnlR rfl ?_ | refine w_nul rfl ?_ | refine w_nulR rfl ?_ | refine w_ldc rfl rfl ?_ | refine w_ldc2 rfl rfl ?_ | refine w_put rfl rfl rfl (Nat.le_of_ble_eq_true rfl) (Or.inl rfl) rfl rfl ?_ | ((first | refine w_if2 rfl (fun _ => ?_) (fun _ => ?_) | refine w_if1 rfl (fun _ => ?_) (fun _ => ?_)) <;> try (exfalso; (((try simp only [c_eq0, c_ne0, c_Llt, c_Lle, c_Lgt, c_Lge, c_Leq, c_Lne] at *); try simp only [ax_cnd, vp_in_iff, Int32.lt_iff_toInt_lt, Int32.le_iff_toInt_le, Int64.lt_iff_toInt_lt, Int64.le_iff_toInt_le, q_eq, q_eqL, q_lg, q_nI, q_add, q_sub, q_mul, q_neg, q_addL, q_subL, q_mulL, q_negL, q_i2l, q_l2i, q_b8, q_b16, q_ofI, q_lit, q_ofNL, q_litL, ne_eq, gt_iff_lt, ge_iff_le] at *) <;> omega); done)))) <;> (first | (refine w_thr rfl rfl rfl rfl rfl (by decide) rfl rfl ?_; rfl) | (exfalso; (((try simp only [c_eq0, c_ne0, c_Llt, c_Lle, c_Lgt, c_Lge, c_Leq, c_Lne] at *); try simp only [ax_cnd, vp_in_iff, Int32.lt_iff_toInt_lt, Int32.le_iff_toInt_le, Int64.lt_iff_toInt_lt, Int64.le_iff_toInt_le, q_eq, q_eqL, q_lg, q_nI, q_add, q_sub, q_mul, q_neg, q_addL, q_subL, q_mulL, q_negL, q_i2l, q_l2i, q_b8, q_b16, q_ofI, q_lit, q_ofNL, q_litL, ne_eq, gt_iff_lt, ge_iff_le] at *) <;> omega)))
  · split
    · (refine ax_run_T (ax_T_of M_ML_copper rfl (Nat.le_of_ble_eq_true rfl) ?_))
      (repeat (first | refine w_iadd1 rfl ?_ | refine w_isub1 rfl ?_ | refine w_iinc1 rfl rfl ?_ | refine w_s rfl rfl ?_ | refine w_get rfl rfl rfl rfl ?_ | refine w_nnl rfl ?_ | refine w_nnlR rfl ?_ | refine w_nul rfl ?_ | refine w_nulR rfl ?_ | refine w_ldc rfl rfl ?_ | refine w_ldc2 rfl rfl ?_ | refine w_put rfl rfl rfl (Nat.le_of_ble_eq_true rfl) (Or.inl rfl) rfl rfl ?_))
      (refine w_cs rfl rfl (by first | decide | exact Nat.le_of_ble_eq_true rfl) (by exact Nat.le_of_ble_eq_true rfl) (r_noLayer l) ?_; dsimp only [Option.toList, List.drop, List.cons_append, List.nil_append])
      (repeat' (first | refine w_iadd1 rfl ?_ | refine w_isub1 rfl ?_ | refine w_iinc1 rfl rfl ?_ | refine w_s rfl rfl ?_ | refine w_get rfl rfl rfl rfl ?_ | refine w_nnl rfl ?_ | refine w_nnlR rfl ?_ | refine w_nul rfl ?_ | refine w_nulR rfl ?_ | refine w_ldc rfl rfl ?_ | refine w_ldc2 rfl rfl ?_ | refine w_put rfl rfl rfl (Nat.le_of_ble_eq_true rfl) (Or.inl rfl) rfl rfl ?_ | ((first | refine w_if2 rfl (fun _ => ?_) (fun _ => ?_) | refine w_if1 rfl (fun _ => ?_) (fun _ => ?_)) <;> try (exfalso; (((try simp only [c_eq0, c_ne0, c_Llt, c_Lle, c_Lgt, c_Lge, c_Leq, c_Lne] at *); try simp only [ax_cnd, vp_in_iff, Int32.lt_iff_toInt_lt, Int32.le_iff_toInt_le, Int64.lt_iff_toInt_lt, Int64.le_iff_toInt_le, q_eq, q_eqL, q_lg, q_nI, q_add, q_sub, q_mul, q_neg, q_addL, q_subL, q_mulL, q_negL, q_i2l, q_l2i, q_b8, q_b16, q_ofI, q_lit, q_ofNL, q_litL, ne_eq, gt_iff_lt, ge_iff_le] at *) <;> omega); done)))) <;> try (first | (refine w_thr rfl rfl rfl rfl rfl (by decide) rfl rfl ?_; rfl) | (exfalso; (((try simp only [c_eq0, c_ne0, c_Llt, c_Lle, c_Lgt, c_Lge, c_Leq, c_Lne] at *); try simp only [ax_cnd, vp_in_iff, Int32.lt_iff_toInt_lt, Int32.le_iff_toInt_le, Int64.lt_iff_toInt_lt, Int64.le_iff_toInt_le, q_eq, q_eqL, q_lg, q_nI, q_add, q_sub, q_mul, q_neg, q_addL, q_subL, q_mulL, q_negL, q_i2l, q_l2i, q_b8, q_b16, q_ofI, q_lit, q_ofNL, q_litL, ne_eq, gt_iff_lt, ge_iff_le] at *) <;> omega)))
      (refine w_cs rfl rfl (by first | decide | exact Nat.le_of_ble_eq_true rfl) (by exact Nat.le_of_ble_eq_true rfl) (r_noCell k) ?_; dsimp only [Option.toList, List.drop, List.cons_append, List.nil_append])
      (repeat' (first | refine w_iadd1 rfl ?_ | refine w_isub1 rfl ?_ | refine w_iinc1 rfl rfl ?_ | refine w_s rfl rfl ?_ | refine w_get rfl rfl rfl rfl ?_ | refine w_nnl rfl ?_ | refine w_nnlR rfl ?_ | refine w_nul rfl ?_ | refine w_nulR rfl ?_ | refine w_ldc rfl rfl ?_ | refine w_ldc2 rfl rfl ?_ | refine w_put rfl rfl rfl (Nat.le_of_ble_eq_true rfl) (Or.inl rfl) rfl rfl ?_ | ((first | refine w_if2 rfl (fun _ => ?_) (fun _ => ?_) | refine w_if1 rfl (fun _ => ?_) (fun _ => ?_)) <;> try (exfalso; (((try simp only [c_eq0, c_ne0, c_Llt, c_Lle, c_Lgt, c_Lge, c_Leq, c_Lne] at *); try simp only [ax_cnd, vp_in_iff, Int32.lt_iff_toInt_lt, Int32.le_iff_toInt_le, Int64.lt_iff_toInt_lt, Int64.le_iff_toInt_le, q_eq, q_eqL, q_lg, q_nI, q_add, q_sub, q_mul, q_neg, q_addL, q_subL, q_mulL, q_negL, q_i2l, q_l2i, q_b8, q_b16, q_ofI, q_lit, q_ofNL, q_litL, ne_eq, gt_iff_lt, ge_iff_le] at *) <;> omega); done)))) <;> (first | (refine w_thr rfl rfl rfl rfl rfl (by decide) rfl rfl ?_; rfl) | (exfalso; (((try simp only [c_eq0, c_ne0, c_Llt, c_Lle, c_Lgt, c_Lge, c_Leq, c_Lne] at *); try simp only [ax_cnd, vp_in_iff, Int32.lt_iff_toInt_lt, Int32.le_iff_toInt_le, Int64.lt_iff_toInt_lt, Int64.le_iff_toInt_le, q_eq, q_eqL, q_lg, q_nI, q_add, q_sub, q_mul, q_neg, q_addL, q_subL, q_mulL, q_negL, q_i2l, q_l2i, q_b8, q_b16, q_ofI, q_lit, q_ofNL, q_litL, ne_eq, gt_iff_lt, ge_iff_le] at *) <;> omega)))
    · rename_i h1 h2
      obtain ⟨j, rfl, hj1, hj2⟩ := q_nat (x := l) (by omega)
      obtain ⟨v, rfl, hv1, hv2⟩ := q_nat (x := k) (by omega)
      rw [← hj1, ← hv1]
      (refine ax_run_T (ax_T_of M_ML_copper rfl (Nat.le_of_ble_eq_true rfl) ?_))
      (repeat (first | refine w_iadd1 rfl ?_ | refine w_isub1 rfl ?_ | refine w_iinc1 rfl rfl ?_ | refine w_s rfl rfl ?_ | refine w_get rfl rfl rfl rfl ?_ | refine w_nnl rfl ?_ | refine w_nnlR rfl ?_ | refine w_nul rfl ?_ | refine w_nulR rfl ?_ | refine w_ldc rfl rfl ?_ | refine w_ldc2 rfl rfl ?_ | refine w_put rfl rfl rfl (Nat.le_of_ble_eq_true rfl) (Or.inl rfl) rfl rfl ?_))
      (refine w_cs rfl rfl (by first | decide | exact Nat.le_of_ble_eq_true rfl) (by exact Nat.le_of_ble_eq_true rfl) (r_noLayer (nI j)) ?_; dsimp only [Option.toList, List.drop, List.cons_append, List.nil_append])
      (repeat' (first | refine w_iadd1 rfl ?_ | refine w_isub1 rfl ?_ | refine w_iinc1 rfl rfl ?_ | refine w_s rfl rfl ?_ | refine w_get rfl rfl rfl rfl ?_ | refine w_nnl rfl ?_ | refine w_nnlR rfl ?_ | refine w_nul rfl ?_ | refine w_nulR rfl ?_ | refine w_ldc rfl rfl ?_ | refine w_ldc2 rfl rfl ?_ | refine w_put rfl rfl rfl (Nat.le_of_ble_eq_true rfl) (Or.inl rfl) rfl rfl ?_ | ((first | refine w_if2 rfl (fun _ => ?_) (fun _ => ?_) | refine w_if1 rfl (fun _ => ?_) (fun _ => ?_)) <;> try (exfalso; (((try simp only [c_eq0, c_ne0, c_Llt, c_Lle, c_Lgt, c_Lge, c_Leq, c_Lne] at *); try simp only [ax_cnd, vp_in_iff, Int32.lt_iff_toInt_lt, Int32.le_iff_toInt_le, Int64.lt_iff_toInt_lt, Int64.le_iff_toInt_le, q_eq, q_eqL, q_lg, q_nI, q_add, q_sub, q_mul, q_neg, q_addL, q_subL, q_mulL, q_negL, q_i2l, q_l2i, q_b8, q_b16, q_ofI, q_lit, q_ofNL, q_litL, ne_eq, gt_iff_lt, ge_iff_le] at *) <;> omega); done)))) <;> try (first | (refine w_thr rfl rfl rfl rfl rfl (by decide) rfl rfl ?_; rfl) | (exfalso; (((try simp only [c_eq0, c_ne0, c_Llt, c_Lle, c_Lgt, c_Lge, c_Leq, c_Lne] at *); try simp only [ax_cnd, vp_in_iff, Int32.lt_iff_toInt_lt, Int32.le_iff_toInt_le, Int64.lt_iff_toInt_lt, Int64.le_iff_toInt_le, q_eq, q_eqL, q_lg, q_nI, q_add, q_sub, q_mul, q_neg, q_addL, q_subL, q_mulL, q_negL, q_i2l, q_l2i, q_b8, q_b16, q_ofI, q_lit, q_ofNL, q_litL, ne_eq, gt_iff_lt, ge_iff_le] at *) <;> omega)))
      (refine w_cs rfl rfl (by first | decide | exact Nat.le_of_ble_eq_true rfl) (by exact Nat.le_of_ble_eq_true rfl) (r_noCell (nI v)) ?_; dsimp only [Option.toList, List.drop, List.cons_append, List.nil_append])
      (repeat' (first | refine w_iadd1 rfl ?_ | refine w_isub1 rfl ?_ | refine w_iinc1 rfl rfl ?_ | refine w_s rfl rfl ?_ | refine w_get rfl rfl rfl rfl ?_ | refine w_nnl rfl ?_ | refine w_nnlR rfl ?_ | refine w_nul rfl ?_ | refine w_nulR rfl ?_ | refine w_ldc rfl rfl ?_ | refine w_ldc2 rfl rfl ?_ | refine w_put rfl rfl rfl (Nat.le_of_ble_eq_true rfl) (Or.inl rfl) rfl rfl ?_ | ((first | refine w_if2 rfl (fun _ => ?_) (fun _ => ?_) | refine w_if1 rfl (fun _ => ?_) (fun _ => ?_)) <;> try (exfalso; (((try simp only [c_eq0, c_ne0, c_Llt, c_Lle, c_Lgt, c_Lge, c_Leq, c_Lne] at *); try simp only [ax_cnd, vp_in_iff, Int32.lt_iff_toInt_lt, Int32.le_iff_toInt_le, Int64.lt_iff_toInt_lt, Int64.le_iff_toInt_le, q_eq, q_eqL, q_lg, q_nI, q_add, q_sub, q_mul, q_neg, q_addL, q_subL, q_mulL, q_negL, q_i2l, q_l2i, q_b8, q_b16, q_ofI, q_lit, q_ofNL, q_litL, ne_eq, gt_iff_lt, ge_iff_le] at *) <;> omega); done)))) <;> try (first | (refine w_thr rfl rfl rfl rfl rfl (by decide) rfl rfl ?_; rfl) | (exfalso; (((try simp only [c_eq0, c_ne0, c_Llt, c_Lle, c_Lgt, c_Lge, c_Leq, c_Lne] at *); try simp only [ax_cnd, vp_in_iff, Int32.lt_iff_toInt_lt, Int32.le_iff_toInt_le, Int64.lt_iff_toInt_lt, Int64.le_iff_toInt_le, q_eq, q_eqL, q_lg, q_nI, q_add, q_sub, q_mul, q_neg, q_addL, q_subL, q_mulL, q_negL, q_i2l, q_l2i, q_b8, q_b16, q_ofI, q_lit, q_ofNL, q_litL, ne_eq, gt_iff_lt, ge_iff_le] at *) <;> omega)))
      (refine w_cv rfl rfl rfl rfl (by exact Nat.le_of_ble_eq_true rfl) (by exact Nat.le_of_ble_eq_true rfl) (r_Ce_tell j v a.toInt32 b.toInt32 (by omega) (by omega)) ?_; dsimp only [Option.toList, List.drop, List.cons_append, List.nil_append])
      refine w_iret rfl rfl bI_nar ?_
      rfl
end CC
end
section
theorem up_fill {α : Type} (f : Nat → α) (v : α) (k : Nat) : (fun j => if j = k then v else if j < k then v else f j) = (fun j => if j < k + 1 then v else f j) := by
  funext j
  by_cases h1 : j = k
  · subst h1
    rw [if_pos rfl, if_pos (by omega)]
  · rw [if_neg h1]
    by_cases h2 : j < k
    · rw [if_pos h2, if_pos (by omega)]
    · rw [if_neg h2, if_neg (by omega)]
section CD
variable {L : Nat} {xs : Nat → Int32} {c : ax_St} {m : ax_Mo} {o : Nat → Int64} {pool : List (Option ax_C)} {u : Nat} {h : ax_H}
/-- filling an int array -/
theorem r_fill {a n : Nat} {f : Nat → Int32} (v : Int32) (H : List (Option ax_C)) (hn : n ≤ 100000) (ha : H[a]? = some (ax_aI n f)) : ax_run m_Ar_fill [.ref a, .int v] (H, u) (.inl none, (H.set a (ax_aI n (fun j => if j < n then v else f j)), u)) := by
  have lp : ∀ (d k : Nat), k + d = n → ax_wp ax_run M_Ar_fill (fun r' => r' = (.inl none, (H.set a (ax_aI n (fun j => if j < n then v else f j)), u))) 5 [(0, .ref a), (1, .int v), (2, .int (nI k)), (3, .int (nI n))] [] (H.set a (ax_aI n (fun j => if j < k then v else f j)), u) := by
    intro d
    induction d with
    | zero =>
      intro k hk
      have : k = n := by omega
      subst this
      (repeat' (first | refine w_iadd1 rfl ?_ | refine w_isub1 rfl ?_ | refine w_iinc1 rfl rfl ?_ | refine w_s rfl rfl ?_ | refine w_get rfl rfl rfl rfl ?_ | refine w_nnl rfl ?_ | refine w_nnlR rfl ?_ | refine w_nul rfl ?_ | refine w_nulR rfl ?_ | refine w_ldc rfl rfl ?_ | refine w_ldc2 rfl rfl ?_ | refine w_put rfl rfl rfl (Nat.le_of_ble_eq_true rfl) (Or.inl rfl) rfl rfl ?_ | ((first | refine w_if2 rfl (fun _ => ?_) (fun _ => ?_) | refine w_if1 rfl (fun _ => ?_) (fun _ => ?_)) <;> try (exfalso; (((try simp only [c_eq0, c_ne0, c_Llt, c_Lle, c_Lgt, c_Lge, c_Leq, c_Lne] at *); try simp only [ax_cnd, vp_in_iff, Int32.lt_iff_toInt_lt, Int32.le_iff_toInt_le, Int64.lt_iff_toInt_lt, Int64.le_iff_toInt_le, q_eq, q_eqL, q_lg, q_nI, q_add, q_sub, q_mul, q_neg, q_addL, q_subL, q_mulL, q_negL, q_i2l, q_l2i, q_b8, q_b16, q_ofI, q_lit, q_ofNL, q_litL, ne_eq, gt_iff_lt, ge_iff_le] at *) <;> omega); done))))
      · refine w_vret rfl rfl rfl
    | succ d ih =>
      intro k hk
      (repeat' (first | refine w_iadd1 rfl ?_ | refine w_isub1 rfl ?_ | refine w_iinc1 rfl rfl ?_ | refine w_s rfl rfl ?_ | refine w_get rfl rfl rfl rfl ?_ | refine w_nnl rfl ?_ | refine w_nnlR rfl ?_ | refine w_nul rfl ?_ | refine w_nulR rfl ?_ | refine w_ldc rfl rfl ?_ | refine w_ldc2 rfl rfl ?_ | refine w_put rfl rfl rfl (Nat.le_of_ble_eq_true rfl) (Or.inl rfl) rfl rfl ?_ | ((first | refine w_if2 rfl (fun _ => ?_) (fun _ => ?_) | refine w_if1 rfl (fun _ => ?_) (fun _ => ?_)) <;> try (exfalso; (((try simp only [c_eq0, c_ne0, c_Llt, c_Lle, c_Lgt, c_Lge, c_Leq, c_Lne] at *); try simp only [ax_cnd, vp_in_iff, Int32.lt_iff_toInt_lt, Int32.le_iff_toInt_le, Int64.lt_iff_toInt_lt, Int64.le_iff_toInt_le, q_eq, q_eqL, q_lg, q_nI, q_add, q_sub, q_mul, q_neg, q_addL, q_subL, q_mulL, q_negL, q_i2l, q_l2i, q_b8, q_b16, q_ofI, q_lit, q_ofNL, q_litL, ne_eq, gt_iff_lt, ge_iff_le] at *) <;> omega); done))))
      · refine w_ias (n := n) (f := fun j => if j < k then v else f j) rfl ?_ rfl (by omega) (by omega) ?_
        · have hl := (List.getElem?_eq_some_iff.mp ha).1
          exact List.getElem?_set_self hl
        · (repeat ((fail_if_success (show ax_wp _ _ _ 5 _ _ _)); (first | refine w_iadd1 rfl ?_ | refine w_isub1 rfl ?_ | refine w_iinc1 rfl rfl ?_ | refine w_s rfl rfl ?_ | refine w_get rfl rfl rfl rfl ?_ | refine w_nnl rfl ?_ | refine w_nnlR rfl ?_ | refine w_nul rfl ?_ | refine w_nulR rfl ?_ | refine w_ldc rfl rfl ?_ | refine w_ldc2 rfl rfl ?_ | refine w_put rfl rfl rfl (Nat.le_of_ble_eq_true rfl) (Or.inl rfl) rfl rfl ?_)))
          refine w_lv (l1 := [(0, .ref a), (1, .int v), (2, .int (nI (k + 1))), (3, .int (nI n))]) ?_ rfl ⟨rfl, rfl, rfl, rfl, trivial⟩
          have e : (H.set a (ax_aI n (fun j => if j < k then v else f j))).set a (some (.inl (0, n, .inl (upd (fun j => if j < k then v else f j) k v)))) = H.set a (ax_aI n (fun j => if j < k + 1 then v else f j)) := by
            rw [List.set_set]
            congr 1
            show ax_aI n _ = _
            congr 1
            exact up_fill f v k
          rw [e]
          exact ih (k + 1) (by omega)
  (refine ax_run_T (ax_T_of M_Ar_fill rfl (Nat.le_of_ble_eq_true rfl) ?_))
  (repeat (first | refine w_iadd1 rfl ?_ | refine w_isub1 rfl ?_ | refine w_iinc1 rfl rfl ?_ | refine w_s rfl rfl ?_ | refine w_get rfl rfl rfl rfl ?_ | refine w_nnl rfl ?_ | refine w_nnlR rfl ?_ | refine w_nul rfl ?_ | refine w_nulR rfl ?_ | refine w_ldc rfl rfl ?_ | refine w_ldc2 rfl rfl ?_ | refine w_put rfl rfl rfl (Nat.le_of_ble_eq_true rfl) (Or.inl rfl) rfl rfl ?_))
  refine w_alen rfl ha (Or.inl (by decide)) ?_
  (repeat ((fail_if_success (show ax_wp _ _ _ 5 _ _ _)); (first | refine w_iadd1 rfl ?_ | refine w_isub1 rfl ?_ | refine w_iinc1 rfl rfl ?_ | refine w_s rfl rfl ?_ | refine w_get rfl rfl rfl rfl ?_ | refine w_nnl rfl ?_ | refine w_nnlR rfl ?_ | refine w_nul rfl ?_ | refine w_nulR rfl ?_ | refine w_ldc rfl rfl ?_ | refine w_ldc2 rfl rfl ?_ | refine w_put rfl rfl rfl (Nat.le_of_ble_eq_true rfl) (Or.inl rfl) rfl rfl ?_)))
  refine w_lv (l1 := [(0, .ref a), (1, .int v), (2, .int (nI 0)), (3, .int (nI n))]) ?_ rfl ⟨rfl, rfl, rfl, rfl, trivial⟩
  have h0 := lp n 0 (by omega)
  have e : H.set a (ax_aI n (fun j => if j < 0 then v else f j)) = H := by
    have e1 : (fun j => if j < 0 then v else f j) = f := by funext j; rw [if_neg (by omega)]
    rw [e1]
    obtain ⟨hl, hv⟩ := List.getElem?_eq_some_iff.mp ha
    rw [← hv]
    exact List.set_getElem_self hl
  rw [e] at h0
  exact h0
def sp_clear (c : ax_St) : ax_St := (ax_St.u_be (ax_St.u_ab (ax_St.u_on (ax_St.u_qn (ax_St.u_rn (ax_St.u_bn (ax_St.u_told (ax_St.u_of (ax_St.u_pl (ax_St.u_tl c 0) 0) (fun j => if j < 4 then none else c.of j)) 0) 0) 0) 0) 0) (fun j => if j < 128 then 0 else c.ab j)) (fun j => if j < 128 then 1 else c.be j))
theorem r_Tx_forget : ax_run m_Tx_forget [.ref 2] (ax_hp L xs c m o pool, u) (.inl none, (ax_hp L xs (ax_St.u_pl (ax_St.u_tl c 0) 0) m o pool, u)) := by
  (refine ax_run_T (ax_T_of M_Tx_forget rfl (Nat.le_of_ble_eq_true rfl) ?_))
  (repeat (first | refine w_iadd1 rfl ?_ | refine w_isub1 rfl ?_ | refine w_iinc1 rfl rfl ?_ | refine w_s rfl rfl ?_ | refine w_get rfl rfl rfl rfl ?_ | refine w_nnl rfl ?_ | refine w_nnlR rfl ?_ | refine w_nul rfl ?_ | refine w_nulR rfl ?_ | refine w_ldc rfl rfl ?_ | refine w_ldc2 rfl rfl ?_ | refine w_put rfl rfl rfl (Nat.le_of_ble_eq_true rfl) (Or.inl rfl) rfl rfl ?_))
  exact w_vret rfl rfl rfl
theorem r_Bd_forget : ax_run m_Bd_forget [.ref 5] (ax_hp L xs c m o pool, u) (.inl none, (ax_hp L xs (ax_St.u_bn c 0) m o pool, u)) := by
  (refine ax_run_T (ax_T_of M_Bd_forget rfl (Nat.le_of_ble_eq_true rfl) ?_))
  (repeat (first | refine w_iadd1 rfl ?_ | refine w_isub1 rfl ?_ | refine w_iinc1 rfl rfl ?_ | refine w_s rfl rfl ?_ | refine w_get rfl rfl rfl rfl ?_ | refine w_nnl rfl ?_ | refine w_nnlR rfl ?_ | refine w_nul rfl ?_ | refine w_nulR rfl ?_ | refine w_ldc rfl rfl ?_ | refine w_ldc2 rfl rfl ?_ | refine w_put rfl rfl rfl (Nat.le_of_ble_eq_true rfl) (Or.inl rfl) rfl rfl ?_))
  exact w_vret rfl rfl rfl
theorem r_Re_forget : ax_run m_Re_forget [.ref 11] (ax_hp L xs c m o pool, u) (.inl none, (ax_hp L xs (ax_St.u_rn c 0) m o pool, u)) := by
  (refine ax_run_T (ax_T_of M_Re_forget rfl (Nat.le_of_ble_eq_true rfl) ?_))
  (repeat (first | refine w_iadd1 rfl ?_ | refine w_isub1 rfl ?_ | refine w_iinc1 rfl rfl ?_ | refine w_s rfl rfl ?_ | refine w_get rfl rfl rfl rfl ?_ | refine w_nnl rfl ?_ | refine w_nnlR rfl ?_ | refine w_nul rfl ?_ | refine w_nulR rfl ?_ | refine w_ldc rfl rfl ?_ | refine w_ldc2 rfl rfl ?_ | refine w_put rfl rfl rfl (Nat.le_of_ble_eq_true rfl) (Or.inl rfl) rfl rfl ?_))
  exact w_vret rfl rfl rfl
theorem r_Qu_forget : ax_run m_Qu_forget [.ref 14] (ax_hp L xs c m o pool, u) (.inl none, (ax_hp L xs (ax_St.u_qn c 0) m o pool, u)) := by
  (refine ax_run_T (ax_T_of M_Qu_forget rfl (Nat.le_of_ble_eq_true rfl) ?_))
  (repeat (first | refine w_iadd1 rfl ?_ | refine w_isub1 rfl ?_ | refine w_iinc1 rfl rfl ?_ | refine w_s rfl rfl ?_ | refine w_get rfl rfl rfl rfl ?_ | refine w_nnl rfl ?_ | refine w_nnlR rfl ?_ | refine w_nul rfl ?_ | refine w_nulR rfl ?_ | refine w_ldc rfl rfl ?_ | refine w_ldc2 rfl rfl ?_ | refine w_put rfl rfl rfl (Nat.le_of_ble_eq_true rfl) (Or.inl rfl) rfl rfl ?_))
  exact w_vret rfl rfl rfl
theorem r_Or_forget : ax_run m_Or_forget [.ref 18] (ax_hp L xs c m o pool, u) (.inl none, (ax_hp L xs (ax_St.u_on c 0) m o pool, u)) := by
  (refine ax_run_T (ax_T_of M_Or_forget rfl (Nat.le_of_ble_eq_true rfl) ?_))
  (repeat (first | refine w_iadd1 rfl ?_ | refine w_isub1 rfl ?_ | refine w_iinc1 rfl rfl ?_ | refine w_s rfl rfl ?_ | refine w_get rfl rfl rfl rfl ?_ | refine w_nnl rfl ?_ | refine w_nnlR rfl ?_ | refine w_nul rfl ?_ | refine w_nulR rfl ?_ | refine w_ldc rfl rfl ?_ | refine w_ldc2 rfl rfl ?_ | refine w_put rfl rfl rfl (Nat.le_of_ble_eq_true rfl) (Or.inl rfl) rfl rfl ?_))
  exact w_vret rfl rfl rfl
theorem r_Ce_forget : ax_run m_Ce_forget [.ref 20] (ax_hp L xs c m o pool, u) (.inl none, (ax_hp L xs (ax_St.u_be (ax_St.u_ab c (fun j => if j < 128 then 0 else c.ab j)) (fun j => if j < 128 then 1 else c.be j)) m o pool, u)) := by
  (refine ax_run_T (ax_T_of M_Ce_forget rfl (Nat.le_of_ble_eq_true rfl) ?_))
  (repeat (first | refine w_iadd1 rfl ?_ | refine w_isub1 rfl ?_ | refine w_iinc1 rfl rfl ?_ | refine w_s rfl rfl ?_ | refine w_get rfl rfl rfl rfl ?_ | refine w_nnl rfl ?_ | refine w_nnlR rfl ?_ | refine w_nul rfl ?_ | refine w_nulR rfl ?_ | refine w_ldc rfl rfl ?_ | refine w_ldc2 rfl rfl ?_ | refine w_put rfl rfl rfl (Nat.le_of_ble_eq_true rfl) (Or.inl rfl) rfl rfl ?_))
  (refine w_cs rfl rfl (by first | decide | exact Nat.le_of_ble_eq_true rfl) (by exact Nat.le_of_ble_eq_true rfl) (r_fill (n := 128) (f := c.ab) (Int32.ofInt 0) (ax_hp L xs c m o pool) (by decide) rfl) ?_; dsimp only [Option.toList, List.drop, List.cons_append, List.nil_append])
  (repeat (first | refine w_iadd1 rfl ?_ | refine w_isub1 rfl ?_ | refine w_iinc1 rfl rfl ?_ | refine w_s rfl rfl ?_ | refine w_get rfl rfl rfl rfl ?_ | refine w_nnl rfl ?_ | refine w_nnlR rfl ?_ | refine w_nul rfl ?_ | refine w_nulR rfl ?_ | refine w_ldc rfl rfl ?_ | refine w_ldc2 rfl rfl ?_ | refine w_put rfl rfl rfl (Nat.le_of_ble_eq_true rfl) (Or.inl rfl) rfl rfl ?_))
  (refine w_cs rfl rfl (by first | decide | exact Nat.le_of_ble_eq_true rfl) (by exact Nat.le_of_ble_eq_true rfl) (r_fill (n := 128) (f := c.be) (Int32.ofInt 1) _ (by decide) rfl) ?_; dsimp only [Option.toList, List.drop, List.cons_append, List.nil_append])
  exact w_vret rfl rfl rfl
theorem r_clear : ax_run m_ML_clear [.ref 1] (ax_hp L xs c m o pool, u) (.inl none, (ax_hp L xs (sp_clear c) m o pool, u)) := by
  (refine ax_run_T (ax_T_of M_ML_clear rfl (Nat.le_of_ble_eq_true rfl) ?_))
  (repeat (first | refine w_iadd1 rfl ?_ | refine w_isub1 rfl ?_ | refine w_iinc1 rfl rfl ?_ | refine w_s rfl rfl ?_ | refine w_get rfl rfl rfl rfl ?_ | refine w_nnl rfl ?_ | refine w_nnlR rfl ?_ | refine w_nul rfl ?_ | refine w_nulR rfl ?_ | refine w_ldc rfl rfl ?_ | refine w_ldc2 rfl rfl ?_ | refine w_put rfl rfl rfl (Nat.le_of_ble_eq_true rfl) (Or.inl rfl) rfl rfl ?_))
  (refine w_cv rfl rfl rfl rfl (by exact Nat.le_of_ble_eq_true rfl) (by exact Nat.le_of_ble_eq_true rfl) r_Tx_forget ?_; dsimp only [Option.toList, List.drop, List.cons_append, List.nil_append])
  have lp : ∀ (d k : Nat), k + d = 4 → ax_wp ax_run M_ML_clear (fun r' => r' = (.inl none, (ax_hp L xs (sp_clear c) m o pool, u))) 9 [(0, .ref 1), (1, .int (nI k))] [] (ax_hp L xs (ax_St.u_of (ax_St.u_pl (ax_St.u_tl c 0) 0) (fun j => if j < k then none else c.of j)) m o pool, u) := by
    intro d
    induction d with
    | zero =>
      intro k hk
      have : k = 4 := by omega
      subst this
      (repeat' (first | refine w_iadd1 rfl ?_ | refine w_isub1 rfl ?_ | refine w_iinc1 rfl rfl ?_ | refine w_s rfl rfl ?_ | refine w_get rfl rfl rfl rfl ?_ | refine w_nnl rfl ?_ | refine w_nnlR rfl ?_ | refine w_nul rfl ?_ | refine w_nulR rfl ?_ | refine w_ldc rfl rfl ?_ | refine w_ldc2 rfl rfl ?_ | refine w_put rfl rfl rfl (Nat.le_of_ble_eq_true rfl) (Or.inl rfl) rfl rfl ?_ | ((first | refine w_if2 rfl (fun _ => ?_) (fun _ => ?_) | refine w_if1 rfl (fun _ => ?_) (fun _ => ?_)) <;> try (exfalso; (((try simp only [c_eq0, c_ne0, c_Llt, c_Lle, c_Lgt, c_Lge, c_Leq, c_Lne] at *); try simp only [ax_cnd, vp_in_iff, Int32.lt_iff_toInt_lt, Int32.le_iff_toInt_le, Int64.lt_iff_toInt_lt, Int64.le_iff_toInt_le, q_eq, q_eqL, q_lg, q_nI, q_add, q_sub, q_mul, q_neg, q_addL, q_subL, q_mulL, q_negL, q_i2l, q_l2i, q_b8, q_b16, q_ofI, q_lit, q_ofNL, q_litL, ne_eq, gt_iff_lt, ge_iff_le] at *) <;> omega); done))))
      · (refine w_cv rfl rfl rfl rfl (by exact Nat.le_of_ble_eq_true rfl) (by exact Nat.le_of_ble_eq_true rfl) (r_Bd_forget (c := (ax_St.u_of (ax_St.u_told (ax_St.u_pl (ax_St.u_tl c 0) 0) 0) (fun j => if j < 4 then none else c.of j)))) ?_; dsimp only [Option.toList, List.drop, List.cons_append, List.nil_append])
        (repeat (first | refine w_iadd1 rfl ?_ | refine w_isub1 rfl ?_ | refine w_iinc1 rfl rfl ?_ | refine w_s rfl rfl ?_ | refine w_get rfl rfl rfl rfl ?_ | refine w_nnl rfl ?_ | refine w_nnlR rfl ?_ | refine w_nul rfl ?_ | refine w_nulR rfl ?_ | refine w_ldc rfl rfl ?_ | refine w_ldc2 rfl rfl ?_ | refine w_put rfl rfl rfl (Nat.le_of_ble_eq_true rfl) (Or.inl rfl) rfl rfl ?_))
        (refine w_cv rfl rfl rfl rfl (by exact Nat.le_of_ble_eq_true rfl) (by exact Nat.le_of_ble_eq_true rfl) r_Re_forget ?_; dsimp only [Option.toList, List.drop, List.cons_append, List.nil_append])
        (repeat (first | refine w_iadd1 rfl ?_ | refine w_isub1 rfl ?_ | refine w_iinc1 rfl rfl ?_ | refine w_s rfl rfl ?_ | refine w_get rfl rfl rfl rfl ?_ | refine w_nnl rfl ?_ | refine w_nnlR rfl ?_ | refine w_nul rfl ?_ | refine w_nulR rfl ?_ | refine w_ldc rfl rfl ?_ | refine w_ldc2 rfl rfl ?_ | refine w_put rfl rfl rfl (Nat.le_of_ble_eq_true rfl) (Or.inl rfl) rfl rfl ?_))
        (refine w_cv rfl rfl rfl rfl (by exact Nat.le_of_ble_eq_true rfl) (by exact Nat.le_of_ble_eq_true rfl) r_Qu_forget ?_; dsimp only [Option.toList, List.drop, List.cons_append, List.nil_append])
        (repeat (first | refine w_iadd1 rfl ?_ | refine w_isub1 rfl ?_ | refine w_iinc1 rfl rfl ?_ | refine w_s rfl rfl ?_ | refine w_get rfl rfl rfl rfl ?_ | refine w_nnl rfl ?_ | refine w_nnlR rfl ?_ | refine w_nul rfl ?_ | refine w_nulR rfl ?_ | refine w_ldc rfl rfl ?_ | refine w_ldc2 rfl rfl ?_ | refine w_put rfl rfl rfl (Nat.le_of_ble_eq_true rfl) (Or.inl rfl) rfl rfl ?_))
        (refine w_cv rfl rfl rfl rfl (by exact Nat.le_of_ble_eq_true rfl) (by exact Nat.le_of_ble_eq_true rfl) r_Or_forget ?_; dsimp only [Option.toList, List.drop, List.cons_append, List.nil_append])
        (repeat (first | refine w_iadd1 rfl ?_ | refine w_isub1 rfl ?_ | refine w_iinc1 rfl rfl ?_ | refine w_s rfl rfl ?_ | refine w_get rfl rfl rfl rfl ?_ | refine w_nnl rfl ?_ | refine w_nnlR rfl ?_ | refine w_nul rfl ?_ | refine w_nulR rfl ?_ | refine w_ldc rfl rfl ?_ | refine w_ldc2 rfl rfl ?_ | refine w_put rfl rfl rfl (Nat.le_of_ble_eq_true rfl) (Or.inl rfl) rfl rfl ?_))
        (refine w_cv rfl rfl rfl rfl (by exact Nat.le_of_ble_eq_true rfl) (by exact Nat.le_of_ble_eq_true rfl) r_Ce_forget ?_; dsimp only [Option.toList, List.drop, List.cons_append, List.nil_append])
        exact w_vret rfl rfl rfl
    | succ d ih =>
      intro k hk
      (repeat' (first | refine w_iadd1 rfl ?_ | refine w_isub1 rfl ?_ | refine w_iinc1 rfl rfl ?_ | refine w_s rfl rfl ?_ | refine w_get rfl rfl rfl rfl ?_ | refine w_nnl rfl ?_ | refine w_nnlR rfl ?_ | refine w_nul rfl ?_ | refine w_nulR rfl ?_ | refine w_ldc rfl rfl ?_ | refine w_ldc2 rfl rfl ?_ | refine w_put rfl rfl rfl (Nat.le_of_ble_eq_true rfl) (Or.inl rfl) rfl rfl ?_ | ((first | refine w_if2 rfl (fun _ => ?_) (fun _ => ?_) | refine w_if1 rfl (fun _ => ?_) (fun _ => ?_)) <;> try (exfalso; (((try simp only [c_eq0, c_ne0, c_Llt, c_Lle, c_Lgt, c_Lge, c_Leq, c_Lne] at *); try simp only [ax_cnd, vp_in_iff, Int32.lt_iff_toInt_lt, Int32.le_iff_toInt_le, Int64.lt_iff_toInt_lt, Int64.le_iff_toInt_le, q_eq, q_eqL, q_lg, q_nI, q_add, q_sub, q_mul, q_neg, q_addL, q_subL, q_mulL, q_negL, q_i2l, q_l2i, q_b8, q_b16, q_ofI, q_lit, q_ofNL, q_litL, ne_eq, gt_iff_lt, ge_iff_le] at *) <;> omega); done))))
      · refine w_aasN rfl rfl (Or.inl rfl) rfl (by omega) (by decide) ?_
        (repeat ((fail_if_success (show ax_wp _ _ _ 9 _ _ _)); (first | refine w_iadd1 rfl ?_ | refine w_isub1 rfl ?_ | refine w_iinc1 rfl rfl ?_ | refine w_s rfl rfl ?_ | refine w_get rfl rfl rfl rfl ?_ | refine w_nnl rfl ?_ | refine w_nnlR rfl ?_ | refine w_nul rfl ?_ | refine w_nulR rfl ?_ | refine w_ldc rfl rfl ?_ | refine w_ldc2 rfl rfl ?_ | refine w_put rfl rfl rfl (Nat.le_of_ble_eq_true rfl) (Or.inl rfl) rfl rfl ?_)))
        refine w_lv (l1 := [(0, .ref 1), (1, .int (nI (k + 1)))]) ?_ rfl ⟨rfl, rfl, trivial⟩
        have e : va_up (fun j => if j < k then none else c.of j) k none = (fun j => if j < k + 1 then none else c.of j) := by
          exact up_fill c.of none k
        have := ih (k + 1) (by omega)
        rw [← e] at this
        exact this
  (repeat ((fail_if_success (show ax_wp _ _ _ 9 _ _ _)); (first | refine w_iadd1 rfl ?_ | refine w_isub1 rfl ?_ | refine w_iinc1 rfl rfl ?_ | refine w_s rfl rfl ?_ | refine w_get rfl rfl rfl rfl ?_ | refine w_nnl rfl ?_ | refine w_nnlR rfl ?_ | refine w_nul rfl ?_ | refine w_nulR rfl ?_ | refine w_ldc rfl rfl ?_ | refine w_ldc2 rfl rfl ?_ | refine w_put rfl rfl rfl (Nat.le_of_ble_eq_true rfl) (Or.inl rfl) rfl rfl ?_)))
  refine w_lv (l1 := [(0, .ref 1), (1, .int (nI 0))]) ?_ rfl ⟨rfl, rfl, trivial⟩
  have e : (fun j => if j < 0 then none else c.of j) = c.of := by funext j; rw [if_neg (by omega)]
  have := lp 4 0 (by omega)
  rw [e] at this
  exact this
end CD
end
section
/-! the reference's methods that look at nobody's offer -/
section MA
variable {L : Nat} {xs : Nat → Int32} {c : ax_St} {m : ax_Mo} {o : Nat → Int64} {pool : List (Option ax_C)} {u : Nat} {h : ax_H}
def ax_mout (L : Nat) (xs : Nat → Int32) (c : ax_St) (o : Nat → Int64) (pool : List (Option ax_C)) (u : Nat) (q : Value × ax_Mo) : ax_R := (.inl (some q.1), (ax_hp L xs c q.2 o pool, u))
theorem n_isLayer (x : Int32) : ax_run m_Mo_isLayer [.int x] h (.inl (some (.int (bI (0 ≤ x.toInt ∧ x.toInt < 8)))), h) := by
  (refine ax_run_T (ax_T_of M_Mo_isLayer rfl (Nat.le_of_ble_eq_true rfl) ?_))
  (repeat' (first | refine w_iadd1 rfl ?_ | refine w_isub1 rfl ?_ | refine w_iinc1 rfl rfl ?_ | refine w_s rfl rfl ?_ | refine w_get rfl rfl rfl rfl ?_ | refine w_nnl rfl ?_ | refine w_nnlR rfl ?_ | refine w_nul rfl ?_ | refine w_nulR rfl ?_ | refine w_ldc rfl rfl ?_ | refine w_ldc2 rfl rfl ?_ | refine w_put rfl rfl rfl (Nat.le_of_ble_eq_true rfl) (Or.inl rfl) rfl rfl ?_ | ((first | refine w_if2 rfl (fun _ => ?_) (fun _ => ?_) | refine w_if1 rfl (fun _ => ?_) (fun _ => ?_)) <;> try (exfalso; (((try simp only [c_eq0, c_ne0, c_Llt, c_Lle, c_Lgt, c_Lge, c_Leq, c_Lne] at *); try simp only [ax_cnd, vp_in_iff, Int32.lt_iff_toInt_lt, Int32.le_iff_toInt_le, Int64.lt_iff_toInt_lt, Int64.le_iff_toInt_le, q_eq, q_eqL, q_lg, q_nI, q_add, q_sub, q_mul, q_neg, q_addL, q_subL, q_mulL, q_negL, q_i2l, q_l2i, q_b8, q_b16, q_ofI, q_lit, q_ofNL, q_litL, ne_eq, gt_iff_lt, ge_iff_le] at *) <;> omega); done)))) <;> (refine w_iret rfl rfl rfl ?_) <;> (first | exact bT (by (((try simp only [c_eq0, c_ne0, c_Llt, c_Lle, c_Lgt, c_Lge, c_Leq, c_Lne] at *); try simp only [ax_cnd, vp_in_iff, Int32.lt_iff_toInt_lt, Int32.le_iff_toInt_le, Int64.lt_iff_toInt_lt, Int64.le_iff_toInt_le, q_eq, q_eqL, q_lg, q_nI, q_add, q_sub, q_mul, q_neg, q_addL, q_subL, q_mulL, q_negL, q_i2l, q_l2i, q_b8, q_b16, q_ofI, q_lit, q_ofNL, q_litL, ne_eq, gt_iff_lt, ge_iff_le] at *) <;> omega)) | exact bF (by (((try simp only [c_eq0, c_ne0, c_Llt, c_Lle, c_Lgt, c_Lge, c_Leq, c_Lne] at *); try simp only [ax_cnd, vp_in_iff, Int32.lt_iff_toInt_lt, Int32.le_iff_toInt_le, Int64.lt_iff_toInt_lt, Int64.le_iff_toInt_le, q_eq, q_eqL, q_lg, q_nI, q_add, q_sub, q_mul, q_neg, q_addL, q_subL, q_mulL, q_negL, q_i2l, q_l2i, q_b8, q_b16, q_ofI, q_lit, q_ofNL, q_litL, ne_eq, gt_iff_lt, ge_iff_le] at *) <;> omega)) | (exfalso; (((try simp only [c_eq0, c_ne0, c_Llt, c_Lle, c_Lgt, c_Lge, c_Leq, c_Lne] at *); try simp only [ax_cnd, vp_in_iff, Int32.lt_iff_toInt_lt, Int32.le_iff_toInt_le, Int64.lt_iff_toInt_lt, Int64.le_iff_toInt_le, q_eq, q_eqL, q_lg, q_nI, q_add, q_sub, q_mul, q_neg, q_addL, q_subL, q_mulL, q_negL, q_i2l, q_l2i, q_b8, q_b16, q_ofI, q_lit, q_ofNL, q_litL, ne_eq, gt_iff_lt, ge_iff_le] at *) <;> omega)))
theorem n_isPlace (x : Int64) : ax_run m_Mo_isPlace [.long x] h (.inl (some (.int (bI (-1000000 ≤ x.toInt ∧ x.toInt ≤ 1000000)))), h) := by
  (refine ax_run_T (ax_T_of M_Mo_isPlace rfl (Nat.le_of_ble_eq_true rfl) ?_))
  (repeat' (first | refine w_iadd1 rfl ?_ | refine w_isub1 rfl ?_ | refine w_iinc1 rfl rfl ?_ | refine w_s rfl rfl ?_ | refine w_get rfl rfl rfl rfl ?_ | refine w_nnl rfl ?_ | refine w_nnlR rfl ?_ | refine w_nul rfl ?_ | refine w_nulR rfl ?_ | refine w_ldc rfl rfl ?_ | refine w_ldc2 rfl rfl ?_ | refine w_put rfl rfl rfl (Nat.le_of_ble_eq_true rfl) (Or.inl rfl) rfl rfl ?_ | ((first | refine w_if2 rfl (fun _ => ?_) (fun _ => ?_) | refine w_if1 rfl (fun _ => ?_) (fun _ => ?_)) <;> try (exfalso; (((try simp only [c_eq0, c_ne0, c_Llt, c_Lle, c_Lgt, c_Lge, c_Leq, c_Lne] at *); try simp only [ax_cnd, vp_in_iff, Int32.lt_iff_toInt_lt, Int32.le_iff_toInt_le, Int64.lt_iff_toInt_lt, Int64.le_iff_toInt_le, q_eq, q_eqL, q_lg, q_nI, q_add, q_sub, q_mul, q_neg, q_addL, q_subL, q_mulL, q_negL, q_i2l, q_l2i, q_b8, q_b16, q_ofI, q_lit, q_ofNL, q_litL, ne_eq, gt_iff_lt, ge_iff_le] at *) <;> omega); done)))) <;> (refine w_iret rfl rfl rfl ?_) <;> (first | exact bT (by (((try simp only [c_eq0, c_ne0, c_Llt, c_Lle, c_Lgt, c_Lge, c_Leq, c_Lne] at *); try simp only [ax_cnd, vp_in_iff, Int32.lt_iff_toInt_lt, Int32.le_iff_toInt_le, Int64.lt_iff_toInt_lt, Int64.le_iff_toInt_le, q_eq, q_eqL, q_lg, q_nI, q_add, q_sub, q_mul, q_neg, q_addL, q_subL, q_mulL, q_negL, q_i2l, q_l2i, q_b8, q_b16, q_ofI, q_lit, q_ofNL, q_litL, ne_eq, gt_iff_lt, ge_iff_le] at *) <;> omega)) | exact bF (by (((try simp only [c_eq0, c_ne0, c_Llt, c_Lle, c_Lgt, c_Lge, c_Leq, c_Lne] at *); try simp only [ax_cnd, vp_in_iff, Int32.lt_iff_toInt_lt, Int32.le_iff_toInt_le, Int64.lt_iff_toInt_lt, Int64.le_iff_toInt_le, q_eq, q_eqL, q_lg, q_nI, q_add, q_sub, q_mul, q_neg, q_addL, q_subL, q_mulL, q_negL, q_i2l, q_l2i, q_b8, q_b16, q_ofI, q_lit, q_ofNL, q_litL, ne_eq, gt_iff_lt, ge_iff_le] at *) <;> omega)) | (exfalso; (((try simp only [c_eq0, c_ne0, c_Llt, c_Lle, c_Lgt, c_Lge, c_Leq, c_Lne] at *); try simp only [ax_cnd, vp_in_iff, Int32.lt_iff_toInt_lt, Int32.le_iff_toInt_le, Int64.lt_iff_toInt_lt, Int64.le_iff_toInt_le, q_eq, q_eqL, q_lg, q_nI, q_add, q_sub, q_mul, q_neg, q_addL, q_subL, q_mulL, q_negL, q_i2l, q_l2i, q_b8, q_b16, q_ofI, q_lit, q_ofNL, q_litL, ne_eq, gt_iff_lt, ge_iff_le] at *) <;> omega)))
theorem n_isQuantity (x : Int64) : ax_run m_Mo_isQuantity [.long x] h (.inl (some (.int (bI (1 ≤ x.toInt ∧ x.toInt ≤ 1000000)))), h) := by
  (refine ax_run_T (ax_T_of M_Mo_isQuantity rfl (Nat.le_of_ble_eq_true rfl) ?_))
  (repeat' (first | refine w_iadd1 rfl ?_ | refine w_isub1 rfl ?_ | refine w_iinc1 rfl rfl ?_ | refine w_s rfl rfl ?_ | refine w_get rfl rfl rfl rfl ?_ | refine w_nnl rfl ?_ | refine w_nnlR rfl ?_ | refine w_nul rfl ?_ | refine w_nulR rfl ?_ | refine w_ldc rfl rfl ?_ | refine w_ldc2 rfl rfl ?_ | refine w_put rfl rfl rfl (Nat.le_of_ble_eq_true rfl) (Or.inl rfl) rfl rfl ?_ | ((first | refine w_if2 rfl (fun _ => ?_) (fun _ => ?_) | refine w_if1 rfl (fun _ => ?_) (fun _ => ?_)) <;> try (exfalso; (((try simp only [c_eq0, c_ne0, c_Llt, c_Lle, c_Lgt, c_Lge, c_Leq, c_Lne] at *); try simp only [ax_cnd, vp_in_iff, Int32.lt_iff_toInt_lt, Int32.le_iff_toInt_le, Int64.lt_iff_toInt_lt, Int64.le_iff_toInt_le, q_eq, q_eqL, q_lg, q_nI, q_add, q_sub, q_mul, q_neg, q_addL, q_subL, q_mulL, q_negL, q_i2l, q_l2i, q_b8, q_b16, q_ofI, q_lit, q_ofNL, q_litL, ne_eq, gt_iff_lt, ge_iff_le] at *) <;> omega); done)))) <;> (refine w_iret rfl rfl rfl ?_) <;> (first | exact bT (by (((try simp only [c_eq0, c_ne0, c_Llt, c_Lle, c_Lgt, c_Lge, c_Leq, c_Lne] at *); try simp only [ax_cnd, vp_in_iff, Int32.lt_iff_toInt_lt, Int32.le_iff_toInt_le, Int64.lt_iff_toInt_lt, Int64.le_iff_toInt_le, q_eq, q_eqL, q_lg, q_nI, q_add, q_sub, q_mul, q_neg, q_addL, q_subL, q_mulL, q_negL, q_i2l, q_l2i, q_b8, q_b16, q_ofI, q_lit, q_ofNL, q_litL, ne_eq, gt_iff_lt, ge_iff_le] at *) <;> omega)) | exact bF (by (((try simp only [c_eq0, c_ne0, c_Llt, c_Lle, c_Lgt, c_Lge, c_Leq, c_Lne] at *); try simp only [ax_cnd, vp_in_iff, Int32.lt_iff_toInt_lt, Int32.le_iff_toInt_le, Int64.lt_iff_toInt_lt, Int64.le_iff_toInt_le, q_eq, q_eqL, q_lg, q_nI, q_add, q_sub, q_mul, q_neg, q_addL, q_subL, q_mulL, q_negL, q_i2l, q_l2i, q_b8, q_b16, q_ofI, q_lit, q_ofNL, q_litL, ne_eq, gt_iff_lt, ge_iff_le] at *) <;> omega)) | (exfalso; (((try simp only [c_eq0, c_ne0, c_Llt, c_Lle, c_Lgt, c_Lge, c_Leq, c_Lne] at *); try simp only [ax_cnd, vp_in_iff, Int32.lt_iff_toInt_lt, Int32.le_iff_toInt_le, Int64.lt_iff_toInt_lt, Int64.le_iff_toInt_le, q_eq, q_eqL, q_lg, q_nI, q_add, q_sub, q_mul, q_neg, q_addL, q_subL, q_mulL, q_negL, q_i2l, q_l2i, q_b8, q_b16, q_ofI, q_lit, q_ofNL, q_litL, ne_eq, gt_iff_lt, ge_iff_le] at *) <;> omega)))
theorem n_isCell (x y : Int32) : ax_run m_Mo_isCell [.int x, .int y] h (.inl (some (.int (bI (0 ≤ x.toInt ∧ x.toInt < 8 ∧ 0 ≤ y.toInt ∧ y.toInt < 16)))), h) := by
  (refine ax_run_T (ax_T_of M_Mo_isCell rfl (Nat.le_of_ble_eq_true rfl) ?_))
  (repeat (first | refine w_iadd1 rfl ?_ | refine w_isub1 rfl ?_ | refine w_iinc1 rfl rfl ?_ | refine w_s rfl rfl ?_ | refine w_get rfl rfl rfl rfl ?_ | refine w_nnl rfl ?_ | refine w_nnlR rfl ?_ | refine w_nul rfl ?_ | refine w_nulR rfl ?_ | refine w_ldc rfl rfl ?_ | refine w_ldc2 rfl rfl ?_ | refine w_put rfl rfl rfl (Nat.le_of_ble_eq_true rfl) (Or.inl rfl) rfl rfl ?_))
  (refine w_cs rfl rfl (by first | decide | exact Nat.le_of_ble_eq_true rfl) (by exact Nat.le_of_ble_eq_true rfl) (n_isLayer x) ?_; dsimp only [Option.toList, List.drop, List.cons_append, List.nil_append])
  (repeat' (first | refine w_iadd1 rfl ?_ | refine w_isub1 rfl ?_ | refine w_iinc1 rfl rfl ?_ | refine w_s rfl rfl ?_ | refine w_get rfl rfl rfl rfl ?_ | refine w_nnl rfl ?_ | refine w_nnlR rfl ?_ | refine w_nul rfl ?_ | refine w_nulR rfl ?_ | refine w_ldc rfl rfl ?_ | refine w_ldc2 rfl rfl ?_ | refine w_put rfl rfl rfl (Nat.le_of_ble_eq_true rfl) (Or.inl rfl) rfl rfl ?_ | ((first | refine w_if2 rfl (fun _ => ?_) (fun _ => ?_) | refine w_if1 rfl (fun _ => ?_) (fun _ => ?_)) <;> try (exfalso; (((try simp only [c_eq0, c_ne0, c_Llt, c_Lle, c_Lgt, c_Lge, c_Leq, c_Lne] at *); try simp only [ax_cnd, vp_in_iff, Int32.lt_iff_toInt_lt, Int32.le_iff_toInt_le, Int64.lt_iff_toInt_lt, Int64.le_iff_toInt_le, q_eq, q_eqL, q_lg, q_nI, q_add, q_sub, q_mul, q_neg, q_addL, q_subL, q_mulL, q_negL, q_i2l, q_l2i, q_b8, q_b16, q_ofI, q_lit, q_ofNL, q_litL, ne_eq, gt_iff_lt, ge_iff_le] at *) <;> omega); done)))) <;> (refine w_iret rfl rfl rfl ?_) <;> (first | exact bT (by (((try simp only [c_eq0, c_ne0, c_Llt, c_Lle, c_Lgt, c_Lge, c_Leq, c_Lne] at *); try simp only [ax_cnd, vp_in_iff, Int32.lt_iff_toInt_lt, Int32.le_iff_toInt_le, Int64.lt_iff_toInt_lt, Int64.le_iff_toInt_le, q_eq, q_eqL, q_lg, q_nI, q_add, q_sub, q_mul, q_neg, q_addL, q_subL, q_mulL, q_negL, q_i2l, q_l2i, q_b8, q_b16, q_ofI, q_lit, q_ofNL, q_litL, ne_eq, gt_iff_lt, ge_iff_le] at *) <;> omega)) | exact bF (by (((try simp only [c_eq0, c_ne0, c_Llt, c_Lle, c_Lgt, c_Lge, c_Leq, c_Lne] at *); try simp only [ax_cnd, vp_in_iff, Int32.lt_iff_toInt_lt, Int32.le_iff_toInt_le, Int64.lt_iff_toInt_lt, Int64.le_iff_toInt_le, q_eq, q_eqL, q_lg, q_nI, q_add, q_sub, q_mul, q_neg, q_addL, q_subL, q_mulL, q_negL, q_i2l, q_l2i, q_b8, q_b16, q_ofI, q_lit, q_ofNL, q_litL, ne_eq, gt_iff_lt, ge_iff_le] at *) <;> omega)) | (exfalso; (((try simp only [c_eq0, c_ne0, c_Llt, c_Lle, c_Lgt, c_Lge, c_Leq, c_Lne] at *); try simp only [ax_cnd, vp_in_iff, Int32.lt_iff_toInt_lt, Int32.le_iff_toInt_le, Int64.lt_iff_toInt_lt, Int64.le_iff_toInt_le, q_eq, q_eqL, q_lg, q_nI, q_add, q_sub, q_mul, q_neg, q_addL, q_subL, q_mulL, q_negL, q_i2l, q_l2i, q_b8, q_b16, q_ofI, q_lit, q_ofNL, q_litL, ne_eq, gt_iff_lt, ge_iff_le] at *) <;> omega)))
theorem n_thrown : ax_run m_Mo_thrown [.ref 23] (ax_hp L xs c m o pool, u) (.inl (some (.int m.thrown)), (ax_hp L xs c m o pool, u)) := by
  (refine ax_run_T (ax_T_of M_Mo_thrown rfl (Nat.le_of_ble_eq_true rfl) ?_))
  (repeat (first | refine w_iadd1 rfl ?_ | refine w_isub1 rfl ?_ | refine w_iinc1 rfl rfl ?_ | refine w_s rfl rfl ?_ | refine w_get rfl rfl rfl rfl ?_ | refine w_nnl rfl ?_ | refine w_nnlR rfl ?_ | refine w_nul rfl ?_ | refine w_nulR rfl ?_ | refine w_ldc rfl rfl ?_ | refine w_ldc2 rfl rfl ?_ | refine w_put rfl rfl rfl (Nat.le_of_ble_eq_true rfl) (Or.inl rfl) rfl rfl ?_))
  (refine w_iret rfl rfl rfl ?_); rfl
def mp_empty (m : ax_Mo) : ax_Mo := (ax_Mo.u_below (ax_Mo.u_above (ax_Mo.u_orders (ax_Mo.u_quotes (ax_Mo.u_remarks (ax_Mo.u_things (ax_Mo.u_makers (ax_Mo.u_units m 0) 0) 0) 0) 0) 0) (fun j => if j < 128 then 0 else m.above j)) (fun j => if j < 128 then 1 else m.below j))
theorem n_empty : ax_run m_Mo_empty [.ref 23] (ax_hp L xs c m o pool, u) (.inl none, (ax_hp L xs c (mp_empty m) o pool, u)) := by
  have lp : ∀ (d k : Nat), k + d = 128 → ax_wp ax_run M_Mo_empty (fun r' => r' = (.inl none, (ax_hp L xs c (mp_empty m) o pool, u))) 32 [(0, .ref 23), (1, .int (nI k))] [] (ax_hp L xs c (ax_Mo.u_below (ax_Mo.u_above (ax_Mo.u_orders (ax_Mo.u_quotes (ax_Mo.u_remarks (ax_Mo.u_things (ax_Mo.u_makers (ax_Mo.u_units m 0) 0) 0) 0) 0) 0) (fun j => if j < k then 0 else m.above j)) (fun j => if j < k then 1 else m.below j)) o pool, u) := by
    intro d
    induction d with
    | zero =>
      intro k hk
      have : k = 128 := by omega
      subst this
      (repeat' (first | refine w_iadd1 rfl ?_ | refine w_isub1 rfl ?_ | refine w_iinc1 rfl rfl ?_ | refine w_s rfl rfl ?_ | refine w_get rfl rfl rfl rfl ?_ | refine w_nnl rfl ?_ | refine w_nnlR rfl ?_ | refine w_nul rfl ?_ | refine w_nulR rfl ?_ | refine w_ldc rfl rfl ?_ | refine w_ldc2 rfl rfl ?_ | refine w_put rfl rfl rfl (Nat.le_of_ble_eq_true rfl) (Or.inl rfl) rfl rfl ?_ | ((first | refine w_if2 rfl (fun _ => ?_) (fun _ => ?_) | refine w_if1 rfl (fun _ => ?_) (fun _ => ?_)) <;> try (exfalso; (((try simp only [c_eq0, c_ne0, c_Llt, c_Lle, c_Lgt, c_Lge, c_Leq, c_Lne] at *); try simp only [ax_cnd, vp_in_iff, Int32.lt_iff_toInt_lt, Int32.le_iff_toInt_le, Int64.lt_iff_toInt_lt, Int64.le_iff_toInt_le, q_eq, q_eqL, q_lg, q_nI, q_add, q_sub, q_mul, q_neg, q_addL, q_subL, q_mulL, q_negL, q_i2l, q_l2i, q_b8, q_b16, q_ofI, q_lit, q_ofNL, q_litL, ne_eq, gt_iff_lt, ge_iff_le] at *) <;> omega); done))))
      exact w_vret rfl rfl rfl
    | succ d ih =>
      intro k hk
      (repeat' (first | refine w_iadd1 rfl ?_ | refine w_isub1 rfl ?_ | refine w_iinc1 rfl rfl ?_ | refine w_s rfl rfl ?_ | refine w_get rfl rfl rfl rfl ?_ | refine w_nnl rfl ?_ | refine w_nnlR rfl ?_ | refine w_nul rfl ?_ | refine w_nulR rfl ?_ | refine w_ldc rfl rfl ?_ | refine w_ldc2 rfl rfl ?_ | refine w_put rfl rfl rfl (Nat.le_of_ble_eq_true rfl) (Or.inl rfl) rfl rfl ?_ | ((first | refine w_if2 rfl (fun _ => ?_) (fun _ => ?_) | refine w_if1 rfl (fun _ => ?_) (fun _ => ?_)) <;> try (exfalso; (((try simp only [c_eq0, c_ne0, c_Llt, c_Lle, c_Lgt, c_Lge, c_Leq, c_Lne] at *); try simp only [ax_cnd, vp_in_iff, Int32.lt_iff_toInt_lt, Int32.le_iff_toInt_le, Int64.lt_iff_toInt_lt, Int64.le_iff_toInt_le, q_eq, q_eqL, q_lg, q_nI, q_add, q_sub, q_mul, q_neg, q_addL, q_subL, q_mulL, q_negL, q_i2l, q_l2i, q_b8, q_b16, q_ofI, q_lit, q_ofNL, q_litL, ne_eq, gt_iff_lt, ge_iff_le] at *) <;> omega); done))))
      · refine w_las rfl rfl rfl (by omega) (by decide) ?_
        (repeat (first | refine w_iadd1 rfl ?_ | refine w_isub1 rfl ?_ | refine w_iinc1 rfl rfl ?_ | refine w_s rfl rfl ?_ | refine w_get rfl rfl rfl rfl ?_ | refine w_nnl rfl ?_ | refine w_nnlR rfl ?_ | refine w_nul rfl ?_ | refine w_nulR rfl ?_ | refine w_ldc rfl rfl ?_ | refine w_ldc2 rfl rfl ?_ | refine w_put rfl rfl rfl (Nat.le_of_ble_eq_true rfl) (Or.inl rfl) rfl rfl ?_))
        refine w_las rfl rfl rfl (by omega) (by decide) ?_
        (repeat ((fail_if_success (show ax_wp _ _ _ 32 _ _ _)); (first | refine w_iadd1 rfl ?_ | refine w_isub1 rfl ?_ | refine w_iinc1 rfl rfl ?_ | refine w_s rfl rfl ?_ | refine w_get rfl rfl rfl rfl ?_ | refine w_nnl rfl ?_ | refine w_nnlR rfl ?_ | refine w_nul rfl ?_ | refine w_nulR rfl ?_ | refine w_ldc rfl rfl ?_ | refine w_ldc2 rfl rfl ?_ | refine w_put rfl rfl rfl (Nat.le_of_ble_eq_true rfl) (Or.inl rfl) rfl rfl ?_)))
        refine w_lv (l1 := [(0, .ref 23), (1, .int (nI (k + 1)))]) ?_ rfl ⟨rfl, rfl, trivial⟩
        have e1 : vp_updL (fun j => if j < k then 0 else m.above j) k (Int64.ofNat 0) = (fun j => if j < k + 1 then 0 else m.above j) := up_fill m.above 0 k
        have e2 : vp_updL (fun j => if j < k then 1 else m.below j) k (Int64.ofNat 1) = (fun j => if j < k + 1 then 1 else m.below j) := up_fill m.below 1 k
        have := ih (k + 1) (by omega)
        rw [← e1, ← e2] at this
        exact this
  (refine ax_run_T (ax_T_of M_Mo_empty rfl (Nat.le_of_ble_eq_true rfl) ?_))
  (repeat ((fail_if_success (show ax_wp _ _ _ 32 _ _ _)); (first | refine w_iadd1 rfl ?_ | refine w_isub1 rfl ?_ | refine w_iinc1 rfl rfl ?_ | refine w_s rfl rfl ?_ | refine w_get rfl rfl rfl rfl ?_ | refine w_nnl rfl ?_ | refine w_nnlR rfl ?_ | refine w_nul rfl ?_ | refine w_nulR rfl ?_ | refine w_ldc rfl rfl ?_ | refine w_ldc2 rfl rfl ?_ | refine w_put rfl rfl rfl (Nat.le_of_ble_eq_true rfl) (Or.inl rfl) rfl rfl ?_)))
  refine w_lv (l1 := [(0, .ref 23), (1, .int (nI 0))]) ?_ rfl ⟨rfl, rfl, trivial⟩
  have e1 : (fun j => if j < 0 then (0 : Int64) else m.above j) = m.above := by funext j; rw [if_neg (by omega)]
  have e2 : (fun j => if j < 0 then (1 : Int64) else m.below j) = m.below := by funext j; rw [if_neg (by omega)]
  have := lp 128 0 (by omega)
  rw [e1, e2] at this
  exact this
theorem n_clear : ax_run m_Mo_clear [.ref 23] (ax_hp L xs c m o pool, u) (.inl none, (ax_hp L xs c (mp_empty (ax_Mo.u_thrown m 0)) o pool, u)) := by
  (refine ax_run_T (ax_T_of M_Mo_clear rfl (Nat.le_of_ble_eq_true rfl) ?_))
  (repeat (first | refine w_iadd1 rfl ?_ | refine w_isub1 rfl ?_ | refine w_iinc1 rfl rfl ?_ | refine w_s rfl rfl ?_ | refine w_get rfl rfl rfl rfl ?_ | refine w_nnl rfl ?_ | refine w_nnlR rfl ?_ | refine w_nul rfl ?_ | refine w_nulR rfl ?_ | refine w_ldc rfl rfl ?_ | refine w_ldc2 rfl rfl ?_ | refine w_put rfl rfl rfl (Nat.le_of_ble_eq_true rfl) (Or.inl rfl) rfl rfl ?_))
  (refine w_cv rfl rfl rfl rfl (by exact Nat.le_of_ble_eq_true rfl) (by exact Nat.le_of_ble_eq_true rfl) (n_empty (m := (ax_Mo.u_thrown m 0))) ?_; dsimp only [Option.toList, List.drop, List.cons_append, List.nil_append])
  exact w_vret rfl rfl rfl
def mp_unit (m : ax_Mo) (x : Int32) : Value × ax_Mo := if x.toInt < 32 ∨ 126 < x.toInt ∨ m.units = 400 then (.int 0, (ax_Mo.u_thrown m 0)) else (.int 1, (ax_Mo.u_units (ax_Mo.u_text (ax_Mo.u_thrown m 0) (upd m.text m.units x)) (m.units + 1)))
theorem n_unit (x : Int32) (hn : m.units ≤ 400) : ax_run m_Mo_unit [.ref 23, .int x] (ax_hp L xs c m o pool, u) (ax_mout L xs c o pool u (mp_unit m x)) := by
  unfold mp_unit
  split
  · (refine ax_run_T (ax_T_of M_Mo_unit rfl (Nat.le_of_ble_eq_true rfl) ?_))
    (repeat' (first | refine w_iadd1 rfl ?_ | refine w_isub1 rfl ?_ | refine w_iinc1 rfl rfl ?_ | refine w_s rfl rfl ?_ | refine w_get rfl rfl rfl rfl ?_ | refine w_nnl rfl ?_ | refine w_nnlR rfl ?_ | refine w_nul rfl ?_ | refine w_nulR rfl ?_ | refine w_ldc rfl rfl ?_ | refine w_ldc2 rfl rfl ?_ | refine w_put rfl rfl rfl (Nat.le_of_ble_eq_true rfl) (Or.inl rfl) rfl rfl ?_ | ((first | refine w_if2 rfl (fun _ => ?_) (fun _ => ?_) | refine w_if1 rfl (fun _ => ?_) (fun _ => ?_)) <;> try (exfalso; (((try simp only [c_eq0, c_ne0, c_Llt, c_Lle, c_Lgt, c_Lge, c_Leq, c_Lne] at *); try simp only [ax_cnd, vp_in_iff, Int32.lt_iff_toInt_lt, Int32.le_iff_toInt_le, Int64.lt_iff_toInt_lt, Int64.le_iff_toInt_le, q_eq, q_eqL, q_lg, q_nI, q_add, q_sub, q_mul, q_neg, q_addL, q_subL, q_mulL, q_negL, q_i2l, q_l2i, q_b8, q_b16, q_ofI, q_lit, q_ofNL, q_litL, ne_eq, gt_iff_lt, ge_iff_le] at *) <;> omega); done)))) <;> (first | (refine w_iret rfl rfl rfl ?_; rfl) | (refine w_lret rfl rfl ?_; rfl) | (exfalso; (((try simp only [c_eq0, c_ne0, c_Llt, c_Lle, c_Lgt, c_Lge, c_Leq, c_Lne] at *); try simp only [ax_cnd, vp_in_iff, Int32.lt_iff_toInt_lt, Int32.le_iff_toInt_le, Int64.lt_iff_toInt_lt, Int64.le_iff_toInt_le, q_eq, q_eqL, q_lg, q_nI, q_add, q_sub, q_mul, q_neg, q_addL, q_subL, q_mulL, q_negL, q_i2l, q_l2i, q_b8, q_b16, q_ofI, q_lit, q_ofNL, q_litL, ne_eq, gt_iff_lt, ge_iff_le] at *) <;> omega)))
  · (refine ax_run_T (ax_T_of M_Mo_unit rfl (Nat.le_of_ble_eq_true rfl) ?_))
    (repeat' (first | refine w_iadd1 rfl ?_ | refine w_isub1 rfl ?_ | refine w_iinc1 rfl rfl ?_ | refine w_s rfl rfl ?_ | refine w_get rfl rfl rfl rfl ?_ | refine w_nnl rfl ?_ | refine w_nnlR rfl ?_ | refine w_nul rfl ?_ | refine w_nulR rfl ?_ | refine w_ldc rfl rfl ?_ | refine w_ldc2 rfl rfl ?_ | refine w_put rfl rfl rfl (Nat.le_of_ble_eq_true rfl) (Or.inl rfl) rfl rfl ?_ | ((first | refine w_if2 rfl (fun _ => ?_) (fun _ => ?_) | refine w_if1 rfl (fun _ => ?_) (fun _ => ?_)) <;> try (exfalso; (((try simp only [c_eq0, c_ne0, c_Llt, c_Lle, c_Lgt, c_Lge, c_Leq, c_Lne] at *); try simp only [ax_cnd, vp_in_iff, Int32.lt_iff_toInt_lt, Int32.le_iff_toInt_le, Int64.lt_iff_toInt_lt, Int64.le_iff_toInt_le, q_eq, q_eqL, q_lg, q_nI, q_add, q_sub, q_mul, q_neg, q_addL, q_subL, q_mulL, q_negL, q_i2l, q_l2i, q_b8, q_b16, q_ofI, q_lit, q_ofNL, q_litL, ne_eq, gt_iff_lt, ge_iff_le] at *) <;> omega); done)))) <;> try (first | (refine w_iret rfl rfl rfl ?_; rfl) | (refine w_lret rfl rfl ?_; rfl) | (exfalso; (((try simp only [c_eq0, c_ne0, c_Llt, c_Lle, c_Lgt, c_Lge, c_Leq, c_Lne] at *); try simp only [ax_cnd, vp_in_iff, Int32.lt_iff_toInt_lt, Int32.le_iff_toInt_le, Int64.lt_iff_toInt_lt, Int64.le_iff_toInt_le, q_eq, q_eqL, q_lg, q_nI, q_add, q_sub, q_mul, q_neg, q_addL, q_subL, q_mulL, q_negL, q_i2l, q_l2i, q_b8, q_b16, q_ofI, q_lit, q_ofNL, q_litL, ne_eq, gt_iff_lt, ge_iff_le] at *) <;> omega)))
    refine w_ias rfl rfl rfl (by omega) (by decide) ?_
    (repeat' (first | refine w_iadd1 rfl ?_ | refine w_isub1 rfl ?_ | refine w_iinc1 rfl rfl ?_ | refine w_s rfl rfl ?_ | refine w_get rfl rfl rfl rfl ?_ | refine w_nnl rfl ?_ | refine w_nnlR rfl ?_ | refine w_nul rfl ?_ | refine w_nulR rfl ?_ | refine w_ldc rfl rfl ?_ | refine w_ldc2 rfl rfl ?_ | refine w_put rfl rfl rfl (Nat.le_of_ble_eq_true rfl) (Or.inl rfl) rfl rfl ?_ | ((first | refine w_if2 rfl (fun _ => ?_) (fun _ => ?_) | refine w_if1 rfl (fun _ => ?_) (fun _ => ?_)) <;> try (exfalso; (((try simp only [c_eq0, c_ne0, c_Llt, c_Lle, c_Lgt, c_Lge, c_Leq, c_Lne] at *); try simp only [ax_cnd, vp_in_iff, Int32.lt_iff_toInt_lt, Int32.le_iff_toInt_le, Int64.lt_iff_toInt_lt, Int64.le_iff_toInt_le, q_eq, q_eqL, q_lg, q_nI, q_add, q_sub, q_mul, q_neg, q_addL, q_subL, q_mulL, q_negL, q_i2l, q_l2i, q_b8, q_b16, q_ofI, q_lit, q_ofNL, q_litL, ne_eq, gt_iff_lt, ge_iff_le] at *) <;> omega); done)))) <;> (first | (refine w_iret rfl rfl rfl ?_; rfl) | (refine w_lret rfl rfl ?_; rfl) | (exfalso; (((try simp only [c_eq0, c_ne0, c_Llt, c_Lle, c_Lgt, c_Lge, c_Leq, c_Lne] at *); try simp only [ax_cnd, vp_in_iff, Int32.lt_iff_toInt_lt, Int32.le_iff_toInt_le, Int64.lt_iff_toInt_lt, Int64.le_iff_toInt_le, q_eq, q_eqL, q_lg, q_nI, q_add, q_sub, q_mul, q_neg, q_addL, q_subL, q_mulL, q_negL, q_i2l, q_l2i, q_b8, q_b16, q_ofI, q_lit, q_ofNL, q_litL, ne_eq, gt_iff_lt, ge_iff_le] at *) <;> omega)))
def mp_thing (m : ax_Mo) (k : Int32) (v : Int64) (y : Int32) : Value × ax_Mo :=
  if ¬ (0 ≤ k.toInt ∧ k.toInt < 6 ∧ 0 ≤ y.toInt ∧ y.toInt < 8) then (.int 0, (ax_Mo.u_thrown m 1)) else if ¬ (0 ≤ v.toInt ∧ v.toInt ≤ 1000000) then (.int 0, (ax_Mo.u_thrown m 2)) else if m.things = 60 then (.int (-1), (ax_Mo.u_thrown m 0))
  else (.int (nI m.things), (ax_Mo.u_things (ax_Mo.u_y (ax_Mo.u_x (ax_Mo.u_layers (ax_Mo.u_values (ax_Mo.u_kinds (ax_Mo.u_thrown m 0) (upd m.kinds m.things k)) (vp_updL m.values m.things v)) (upd m.layers m.things y)) (vp_updL m.x m.things 0)) (vp_updL m.y m.things 0)) (m.things + 1)))
theorem n_thing (k : Int32) (v : Int64) (y : Int32) (hn : m.things ≤ 60) : ax_run m_Mo_thing [.ref 23, .int k, .long v, .int y] (ax_hp L xs c m o pool, u) (ax_mout L xs c o pool u (mp_thing m k v y)) := by
  unfold mp_thing
  split
  · (refine ax_run_T (ax_T_of M_Mo_thing rfl (Nat.le_of_ble_eq_true rfl) ?_))
    (repeat' (first | refine w_iadd1 rfl ?_ | refine w_isub1 rfl ?_ | refine w_iinc1 rfl rfl ?_ | refine w_s rfl rfl ?_ | refine w_get rfl rfl rfl rfl ?_ | refine w_nnl rfl ?_ | refine w_nnlR rfl ?_ | refine w_nul rfl ?_ | refine w_nulR rfl ?_ | refine w_ldc rfl rfl ?_ | refine w_ldc2 rfl rfl ?_ | refine w_put rfl rfl rfl (Nat.le_of_ble_eq_true rfl) (Or.inl rfl) rfl rfl ?_ | ((first | refine w_if2 rfl (fun _ => ?_) (fun _ => ?_) | refine w_if1 rfl (fun _ => ?_) (fun _ => ?_)) <;> try (exfalso; (((try simp only [c_eq0, c_ne0, c_Llt, c_Lle, c_Lgt, c_Lge, c_Leq, c_Lne] at *); try simp only [ax_cnd, vp_in_iff, Int32.lt_iff_toInt_lt, Int32.le_iff_toInt_le, Int64.lt_iff_toInt_lt, Int64.le_iff_toInt_le, q_eq, q_eqL, q_lg, q_nI, q_add, q_sub, q_mul, q_neg, q_addL, q_subL, q_mulL, q_negL, q_i2l, q_l2i, q_b8, q_b16, q_ofI, q_lit, q_ofNL, q_litL, ne_eq, gt_iff_lt, ge_iff_le] at *) <;> omega); done)))) <;> try (first | (refine w_iret rfl rfl rfl ?_; rfl) | (refine w_lret rfl rfl ?_; rfl) | (exfalso; (((try simp only [c_eq0, c_ne0, c_Llt, c_Lle, c_Lgt, c_Lge, c_Leq, c_Lne] at *); try simp only [ax_cnd, vp_in_iff, Int32.lt_iff_toInt_lt, Int32.le_iff_toInt_le, Int64.lt_iff_toInt_lt, Int64.le_iff_toInt_le, q_eq, q_eqL, q_lg, q_nI, q_add, q_sub, q_mul, q_neg, q_addL, q_subL, q_mulL, q_negL, q_i2l, q_l2i, q_b8, q_b16, q_ofI, q_lit, q_ofNL, q_litL, ne_eq, gt_iff_lt, ge_iff_le] at *) <;> omega)))
    (refine w_cs rfl rfl (by first | decide | exact Nat.le_of_ble_eq_true rfl) (by exact Nat.le_of_ble_eq_true rfl) (n_isLayer y) ?_; dsimp only [Option.toList, List.drop, List.cons_append, List.nil_append])
    (repeat' (first | refine w_iadd1 rfl ?_ | refine w_isub1 rfl ?_ | refine w_iinc1 rfl rfl ?_ | refine w_s rfl rfl ?_ | refine w_get rfl rfl rfl rfl ?_ | refine w_nnl rfl ?_ | refine w_nnlR rfl ?_ | refine w_nul rfl ?_ | refine w_nulR rfl ?_ | refine w_ldc rfl rfl ?_ | refine w_ldc2 rfl rfl ?_ | refine w_put rfl rfl rfl (Nat.le_of_ble_eq_true rfl) (Or.inl rfl) rfl rfl ?_ | ((first | refine w_if2 rfl (fun _ => ?_) (fun _ => ?_) | refine w_if1 rfl (fun _ => ?_) (fun _ => ?_)) <;> try (exfalso; (((try simp only [c_eq0, c_ne0, c_Llt, c_Lle, c_Lgt, c_Lge, c_Leq, c_Lne] at *); try simp only [ax_cnd, vp_in_iff, Int32.lt_iff_toInt_lt, Int32.le_iff_toInt_le, Int64.lt_iff_toInt_lt, Int64.le_iff_toInt_le, q_eq, q_eqL, q_lg, q_nI, q_add, q_sub, q_mul, q_neg, q_addL, q_subL, q_mulL, q_negL, q_i2l, q_l2i, q_b8, q_b16, q_ofI, q_lit, q_ofNL, q_litL, ne_eq, gt_iff_lt, ge_iff_le] at *) <;> omega); done)))) <;> (first | (refine w_iret rfl rfl rfl ?_; rfl) | (refine w_lret rfl rfl ?_; rfl) | (exfalso; (((try simp only [c_eq0, c_ne0, c_Llt, c_Lle, c_Lgt, c_Lge, c_Leq, c_Lne] at *); try simp only [ax_cnd, vp_in_iff, Int32.lt_iff_toInt_lt, Int32.le_iff_toInt_le, Int64.lt_iff_toInt_lt, Int64.le_iff_toInt_le, q_eq, q_eqL, q_lg, q_nI, q_add, q_sub, q_mul, q_neg, q_addL, q_subL, q_mulL, q_negL, q_i2l, q_l2i, q_b8, q_b16, q_ofI, q_lit, q_ofNL, q_litL, ne_eq, gt_iff_lt, ge_iff_le] at *) <;> omega)))
  · split
    · (refine ax_run_T (ax_T_of M_Mo_thing rfl (Nat.le_of_ble_eq_true rfl) ?_))
      (repeat' (first | refine w_iadd1 rfl ?_ | refine w_isub1 rfl ?_ | refine w_iinc1 rfl rfl ?_ | refine w_s rfl rfl ?_ | refine w_get rfl rfl rfl rfl ?_ | refine w_nnl rfl ?_ | refine w_nnlR rfl ?_ | refine w_nul rfl ?_ | refine w_nulR rfl ?_ | refine w_ldc rfl rfl ?_ | refine w_ldc2 rfl rfl ?_ | refine w_put rfl rfl rfl (Nat.le_of_ble_eq_true rfl) (Or.inl rfl) rfl rfl ?_ | ((first | refine w_if2 rfl (fun _ => ?_) (fun _ => ?_) | refine w_if1 rfl (fun _ => ?_) (fun _ => ?_)) <;> try (exfalso; (((try simp only [c_eq0, c_ne0, c_Llt, c_Lle, c_Lgt, c_Lge, c_Leq, c_Lne] at *); try simp only [ax_cnd, vp_in_iff, Int32.lt_iff_toInt_lt, Int32.le_iff_toInt_le, Int64.lt_iff_toInt_lt, Int64.le_iff_toInt_le, q_eq, q_eqL, q_lg, q_nI, q_add, q_sub, q_mul, q_neg, q_addL, q_subL, q_mulL, q_negL, q_i2l, q_l2i, q_b8, q_b16, q_ofI, q_lit, q_ofNL, q_litL, ne_eq, gt_iff_lt, ge_iff_le] at *) <;> omega); done)))) <;> try (first | (refine w_iret rfl rfl rfl ?_; rfl) | (refine w_lret rfl rfl ?_; rfl) | (exfalso; (((try simp only [c_eq0, c_ne0, c_Llt, c_Lle, c_Lgt, c_Lge, c_Leq, c_Lne] at *); try simp only [ax_cnd, vp_in_iff, Int32.lt_iff_toInt_lt, Int32.le_iff_toInt_le, Int64.lt_iff_toInt_lt, Int64.le_iff_toInt_le, q_eq, q_eqL, q_lg, q_nI, q_add, q_sub, q_mul, q_neg, q_addL, q_subL, q_mulL, q_negL, q_i2l, q_l2i, q_b8, q_b16, q_ofI, q_lit, q_ofNL, q_litL, ne_eq, gt_iff_lt, ge_iff_le] at *) <;> omega)))
      (refine w_cs rfl rfl (by first | decide | exact Nat.le_of_ble_eq_true rfl) (by exact Nat.le_of_ble_eq_true rfl) (n_isLayer y) ?_; dsimp only [Option.toList, List.drop, List.cons_append, List.nil_append])
      (repeat' (first | refine w_iadd1 rfl ?_ | refine w_isub1 rfl ?_ | refine w_iinc1 rfl rfl ?_ | refine w_s rfl rfl ?_ | refine w_get rfl rfl rfl rfl ?_ | refine w_nnl rfl ?_ | refine w_nnlR rfl ?_ | refine w_nul rfl ?_ | refine w_nulR rfl ?_ | refine w_ldc rfl rfl ?_ | refine w_ldc2 rfl rfl ?_ | refine w_put rfl rfl rfl (Nat.le_of_ble_eq_true rfl) (Or.inl rfl) rfl rfl ?_ | ((first | refine w_if2 rfl (fun _ => ?_) (fun _ => ?_) | refine w_if1 rfl (fun _ => ?_) (fun _ => ?_)) <;> try (exfalso; (((try simp only [c_eq0, c_ne0, c_Llt, c_Lle, c_Lgt, c_Lge, c_Leq, c_Lne] at *); try simp only [ax_cnd, vp_in_iff, Int32.lt_iff_toInt_lt, Int32.le_iff_toInt_le, Int64.lt_iff_toInt_lt, Int64.le_iff_toInt_le, q_eq, q_eqL, q_lg, q_nI, q_add, q_sub, q_mul, q_neg, q_addL, q_subL, q_mulL, q_negL, q_i2l, q_l2i, q_b8, q_b16, q_ofI, q_lit, q_ofNL, q_litL, ne_eq, gt_iff_lt, ge_iff_le] at *) <;> omega); done)))) <;> (first | (refine w_iret rfl rfl rfl ?_; rfl) | (refine w_lret rfl rfl ?_; rfl) | (exfalso; (((try simp only [c_eq0, c_ne0, c_Llt, c_Lle, c_Lgt, c_Lge, c_Leq, c_Lne] at *); try simp only [ax_cnd, vp_in_iff, Int32.lt_iff_toInt_lt, Int32.le_iff_toInt_le, Int64.lt_iff_toInt_lt, Int64.le_iff_toInt_le, q_eq, q_eqL, q_lg, q_nI, q_add, q_sub, q_mul, q_neg, q_addL, q_subL, q_mulL, q_negL, q_i2l, q_l2i, q_b8, q_b16, q_ofI, q_lit, q_ofNL, q_litL, ne_eq, gt_iff_lt, ge_iff_le] at *) <;> omega)))
    · split
      · (refine ax_run_T (ax_T_of M_Mo_thing rfl (Nat.le_of_ble_eq_true rfl) ?_))
        (repeat' (first | refine w_iadd1 rfl ?_ | refine w_isub1 rfl ?_ | refine w_iinc1 rfl rfl ?_ | refine w_s rfl rfl ?_ | refine w_get rfl rfl rfl rfl ?_ | refine w_nnl rfl ?_ | refine w_nnlR rfl ?_ | refine w_nul rfl ?_ | refine w_nulR rfl ?_ | refine w_ldc rfl rfl ?_ | refine w_ldc2 rfl rfl ?_ | refine w_put rfl rfl rfl (Nat.le_of_ble_eq_true rfl) (Or.inl rfl) rfl rfl ?_ | ((first | refine w_if2 rfl (fun _ => ?_) (fun _ => ?_) | refine w_if1 rfl (fun _ => ?_) (fun _ => ?_)) <;> try (exfalso; (((try simp only [c_eq0, c_ne0, c_Llt, c_Lle, c_Lgt, c_Lge, c_Leq, c_Lne] at *); try simp only [ax_cnd, vp_in_iff, Int32.lt_iff_toInt_lt, Int32.le_iff_toInt_le, Int64.lt_iff_toInt_lt, Int64.le_iff_toInt_le, q_eq, q_eqL, q_lg, q_nI, q_add, q_sub, q_mul, q_neg, q_addL, q_subL, q_mulL, q_negL, q_i2l, q_l2i, q_b8, q_b16, q_ofI, q_lit, q_ofNL, q_litL, ne_eq, gt_iff_lt, ge_iff_le] at *) <;> omega); done)))) <;> try (first | (refine w_iret rfl rfl rfl ?_; rfl) | (refine w_lret rfl rfl ?_; rfl) | (exfalso; (((try simp only [c_eq0, c_ne0, c_Llt, c_Lle, c_Lgt, c_Lge, c_Leq, c_Lne] at *); try simp only [ax_cnd, vp_in_iff, Int32.lt_iff_toInt_lt, Int32.le_iff_toInt_le, Int64.lt_iff_toInt_lt, Int64.le_iff_toInt_le, q_eq, q_eqL, q_lg, q_nI, q_add, q_sub, q_mul, q_neg, q_addL, q_subL, q_mulL, q_negL, q_i2l, q_l2i, q_b8, q_b16, q_ofI, q_lit, q_ofNL, q_litL, ne_eq, gt_iff_lt, ge_iff_le] at *) <;> omega)))
        (refine w_cs rfl rfl (by first | decide | exact Nat.le_of_ble_eq_true rfl) (by exact Nat.le_of_ble_eq_true rfl) (n_isLayer y) ?_; dsimp only [Option.toList, List.drop, List.cons_append, List.nil_append])
        (repeat' (first | refine w_iadd1 rfl ?_ | refine w_isub1 rfl ?_ | refine w_iinc1 rfl rfl ?_ | refine w_s rfl rfl ?_ | refine w_get rfl rfl rfl rfl ?_ | refine w_nnl rfl ?_ | refine w_nnlR rfl ?_ | refine w_nul rfl ?_ | refine w_nulR rfl ?_ | refine w_ldc rfl rfl ?_ | refine w_ldc2 rfl rfl ?_ | refine w_put rfl rfl rfl (Nat.le_of_ble_eq_true rfl) (Or.inl rfl) rfl rfl ?_ | ((first | refine w_if2 rfl (fun _ => ?_) (fun _ => ?_) | refine w_if1 rfl (fun _ => ?_) (fun _ => ?_)) <;> try (exfalso; (((try simp only [c_eq0, c_ne0, c_Llt, c_Lle, c_Lgt, c_Lge, c_Leq, c_Lne] at *); try simp only [ax_cnd, vp_in_iff, Int32.lt_iff_toInt_lt, Int32.le_iff_toInt_le, Int64.lt_iff_toInt_lt, Int64.le_iff_toInt_le, q_eq, q_eqL, q_lg, q_nI, q_add, q_sub, q_mul, q_neg, q_addL, q_subL, q_mulL, q_negL, q_i2l, q_l2i, q_b8, q_b16, q_ofI, q_lit, q_ofNL, q_litL, ne_eq, gt_iff_lt, ge_iff_le] at *) <;> omega); done)))) <;> (first | (refine w_iret rfl rfl rfl ?_; rfl) | (refine w_lret rfl rfl ?_; rfl) | (exfalso; (((try simp only [c_eq0, c_ne0, c_Llt, c_Lle, c_Lgt, c_Lge, c_Leq, c_Lne] at *); try simp only [ax_cnd, vp_in_iff, Int32.lt_iff_toInt_lt, Int32.le_iff_toInt_le, Int64.lt_iff_toInt_lt, Int64.le_iff_toInt_le, q_eq, q_eqL, q_lg, q_nI, q_add, q_sub, q_mul, q_neg, q_addL, q_subL, q_mulL, q_negL, q_i2l, q_l2i, q_b8, q_b16, q_ofI, q_lit, q_ofNL, q_litL, ne_eq, gt_iff_lt, ge_iff_le] at *) <;> omega)))
      · (refine ax_run_T (ax_T_of M_Mo_thing rfl (Nat.le_of_ble_eq_true rfl) ?_))
        (repeat' (first | refine w_iadd1 rfl ?_ | refine w_isub1 rfl ?_ | refine w_iinc1 rfl rfl ?_ | refine w_s rfl rfl ?_ | refine w_get rfl rfl rfl rfl ?_ | refine w_nnl rfl ?_ | refine w_nnlR rfl ?_ | refine w_nul rfl ?_ | refine w_nulR rfl ?_ | refine w_ldc rfl rfl ?_ | refine w_ldc2 rfl rfl ?_ | refine w_put rfl rfl rfl (Nat.le_of_ble_eq_true rfl) (Or.inl rfl) rfl rfl ?_ | ((first | refine w_if2 rfl (fun _ => ?_) (fun _ => ?_) | refine w_if1 rfl (fun _ => ?_) (fun _ => ?_)) <;> try (exfalso; (((try simp only [c_eq0, c_ne0, c_Llt, c_Lle, c_Lgt, c_Lge, c_Leq, c_Lne] at *); try simp only [ax_cnd, vp_in_iff, Int32.lt_iff_toInt_lt, Int32.le_iff_toInt_le, Int64.lt_iff_toInt_lt, Int64.le_iff_toInt_le, q_eq, q_eqL, q_lg, q_nI, q_add, q_sub, q_mul, q_neg, q_addL, q_subL, q_mulL, q_negL, q_i2l, q_l2i, q_b8, q_b16, q_ofI, q_lit, q_ofNL, q_litL, ne_eq, gt_iff_lt, ge_iff_le] at *) <;> omega); done)))) <;> try (first | (refine w_iret rfl rfl rfl ?_; rfl) | (refine w_lret rfl rfl ?_; rfl) | (exfalso; (((try simp only [c_eq0, c_ne0, c_Llt, c_Lle, c_Lgt, c_Lge, c_Leq, c_Lne] at *); try simp only [ax_cnd, vp_in_iff, Int32.lt_iff_toInt_lt, Int32.le_iff_toInt_le, Int64.lt_iff_toInt_lt, Int64.le_iff_toInt_le, q_eq, q_eqL, q_lg, q_nI, q_add, q_sub, q_mul, q_neg, q_addL, q_subL, q_mulL, q_negL, q_i2l, q_l2i, q_b8, q_b16, q_ofI, q_lit, q_ofNL, q_litL, ne_eq, gt_iff_lt, ge_iff_le] at *) <;> omega)))
        (refine w_cs rfl rfl (by first | decide | exact Nat.le_of_ble_eq_true rfl) (by exact Nat.le_of_ble_eq_true rfl) (n_isLayer y) ?_; dsimp only [Option.toList, List.drop, List.cons_append, List.nil_append])
        (repeat' (first | refine w_iadd1 rfl ?_ | refine w_isub1 rfl ?_ | refine w_iinc1 rfl rfl ?_ | refine w_s rfl rfl ?_ | refine w_get rfl rfl rfl rfl ?_ | refine w_nnl rfl ?_ | refine w_nnlR rfl ?_ | refine w_nul rfl ?_ | refine w_nulR rfl ?_ | refine w_ldc rfl rfl ?_ | refine w_ldc2 rfl rfl ?_ | refine w_put rfl rfl rfl (Nat.le_of_ble_eq_true rfl) (Or.inl rfl) rfl rfl ?_ | ((first | refine w_if2 rfl (fun _ => ?_) (fun _ => ?_) | refine w_if1 rfl (fun _ => ?_) (fun _ => ?_)) <;> try (exfalso; (((try simp only [c_eq0, c_ne0, c_Llt, c_Lle, c_Lgt, c_Lge, c_Leq, c_Lne] at *); try simp only [ax_cnd, vp_in_iff, Int32.lt_iff_toInt_lt, Int32.le_iff_toInt_le, Int64.lt_iff_toInt_lt, Int64.le_iff_toInt_le, q_eq, q_eqL, q_lg, q_nI, q_add, q_sub, q_mul, q_neg, q_addL, q_subL, q_mulL, q_negL, q_i2l, q_l2i, q_b8, q_b16, q_ofI, q_lit, q_ofNL, q_litL, ne_eq, gt_iff_lt, ge_iff_le] at *) <;> omega); done)))) <;> try (first | (refine w_iret rfl rfl rfl ?_; rfl) | (refine w_lret rfl rfl ?_; rfl) | (exfalso; (((try simp only [c_eq0, c_ne0, c_Llt, c_Lle, c_Lgt, c_Lge, c_Leq, c_Lne] at *); try simp only [ax_cnd, vp_in_iff, Int32.lt_iff_toInt_lt, Int32.le_iff_toInt_le, Int64.lt_iff_toInt_lt, Int64.le_iff_toInt_le, q_eq, q_eqL, q_lg, q_nI, q_add, q_sub, q_mul, q_neg, q_addL, q_subL, q_mulL, q_negL, q_i2l, q_l2i, q_b8, q_b16, q_ofI, q_lit, q_ofNL, q_litL, ne_eq, gt_iff_lt, ge_iff_le] at *) <;> omega)))
        refine w_ias rfl rfl rfl (by omega) (by decide) ?_
        (repeat (first | refine w_iadd1 rfl ?_ | refine w_isub1 rfl ?_ | refine w_iinc1 rfl rfl ?_ | refine w_s rfl rfl ?_ | refine w_get rfl rfl rfl rfl ?_ | refine w_nnl rfl ?_ | refine w_nnlR rfl ?_ | refine w_nul rfl ?_ | refine w_nulR rfl ?_ | refine w_ldc rfl rfl ?_ | refine w_ldc2 rfl rfl ?_ | refine w_put rfl rfl rfl (Nat.le_of_ble_eq_true rfl) (Or.inl rfl) rfl rfl ?_))
        refine w_las rfl rfl rfl (by omega) (by decide) ?_
        (repeat (first | refine w_iadd1 rfl ?_ | refine w_isub1 rfl ?_ | refine w_iinc1 rfl rfl ?_ | refine w_s rfl rfl ?_ | refine w_get rfl rfl rfl rfl ?_ | refine w_nnl rfl ?_ | refine w_nnlR rfl ?_ | refine w_nul rfl ?_ | refine w_nulR rfl ?_ | refine w_ldc rfl rfl ?_ | refine w_ldc2 rfl rfl ?_ | refine w_put rfl rfl rfl (Nat.le_of_ble_eq_true rfl) (Or.inl rfl) rfl rfl ?_))
        refine w_ias rfl rfl rfl (by omega) (by decide) ?_
        (repeat (first | refine w_iadd1 rfl ?_ | refine w_isub1 rfl ?_ | refine w_iinc1 rfl rfl ?_ | refine w_s rfl rfl ?_ | refine w_get rfl rfl rfl rfl ?_ | refine w_nnl rfl ?_ | refine w_nnlR rfl ?_ | refine w_nul rfl ?_ | refine w_nulR rfl ?_ | refine w_ldc rfl rfl ?_ | refine w_ldc2 rfl rfl ?_ | refine w_put rfl rfl rfl (Nat.le_of_ble_eq_true rfl) (Or.inl rfl) rfl rfl ?_))
        refine w_las rfl rfl rfl (by omega) (by decide) ?_
        (repeat (first | refine w_iadd1 rfl ?_ | refine w_isub1 rfl ?_ | refine w_iinc1 rfl rfl ?_ | refine w_s rfl rfl ?_ | refine w_get rfl rfl rfl rfl ?_ | refine w_nnl rfl ?_ | refine w_nnlR rfl ?_ | refine w_nul rfl ?_ | refine w_nulR rfl ?_ | refine w_ldc rfl rfl ?_ | refine w_ldc2 rfl rfl ?_ | refine w_put rfl rfl rfl (Nat.le_of_ble_eq_true rfl) (Or.inl rfl) rfl rfl ?_))
        refine w_las rfl rfl rfl (by omega) (by decide) ?_
        (repeat' (first | refine w_iadd1 rfl ?_ | refine w_isub1 rfl ?_ | refine w_iinc1 rfl rfl ?_ | refine w_s rfl rfl ?_ | refine w_get rfl rfl rfl rfl ?_ | refine w_nnl rfl ?_ | refine w_nnlR rfl ?_ | refine w_nul rfl ?_ | refine w_nulR rfl ?_ | refine w_ldc rfl rfl ?_ | refine w_ldc2 rfl rfl ?_ | refine w_put rfl rfl rfl (Nat.le_of_ble_eq_true rfl) (Or.inl rfl) rfl rfl ?_ | ((first | refine w_if2 rfl (fun _ => ?_) (fun _ => ?_) | refine w_if1 rfl (fun _ => ?_) (fun _ => ?_)) <;> try (exfalso; (((try simp only [c_eq0, c_ne0, c_Llt, c_Lle, c_Lgt, c_Lge, c_Leq, c_Lne] at *); try simp only [ax_cnd, vp_in_iff, Int32.lt_iff_toInt_lt, Int32.le_iff_toInt_le, Int64.lt_iff_toInt_lt, Int64.le_iff_toInt_le, q_eq, q_eqL, q_lg, q_nI, q_add, q_sub, q_mul, q_neg, q_addL, q_subL, q_mulL, q_negL, q_i2l, q_l2i, q_b8, q_b16, q_ofI, q_lit, q_ofNL, q_litL, ne_eq, gt_iff_lt, ge_iff_le] at *) <;> omega); done)))) <;> (first | (refine w_iret rfl rfl rfl ?_; rfl) | (refine w_lret rfl rfl ?_; rfl) | (exfalso; (((try simp only [c_eq0, c_ne0, c_Llt, c_Lle, c_Lgt, c_Lge, c_Leq, c_Lne] at *); try simp only [ax_cnd, vp_in_iff, Int32.lt_iff_toInt_lt, Int32.le_iff_toInt_le, Int64.lt_iff_toInt_lt, Int64.le_iff_toInt_le, q_eq, q_eqL, q_lg, q_nI, q_add, q_sub, q_mul, q_neg, q_addL, q_subL, q_mulL, q_negL, q_i2l, q_l2i, q_b8, q_b16, q_ofI, q_lit, q_ofNL, q_litL, ne_eq, gt_iff_lt, ge_iff_le] at *) <;> omega)))
def mp_at (m : ax_Mo) (t : Int32) (px py : Int64) : Value × ax_Mo :=
  if ¬ (0 ≤ t.toInt ∧ t.toInt < m.things) then (.int 0, (ax_Mo.u_thrown m 1)) else if ¬ (-1000000 ≤ px.toInt ∧ px.toInt ≤ 1000000 ∧ -1000000 ≤ py.toInt ∧ py.toInt ≤ 1000000) then (.int 0, (ax_Mo.u_thrown m 2))
  else if m.x t.toInt.toNat = px ∧ m.y t.toInt.toNat = py then (.int 0, (ax_Mo.u_thrown m 0)) else (.int 1, (ax_Mo.u_y (ax_Mo.u_x (ax_Mo.u_thrown m 0) (vp_updL m.x t.toInt.toNat px)) (vp_updL m.y t.toInt.toNat py)))
theorem n_at (t : Int32) (px py : Int64) (hn : m.things ≤ 60) : ax_run m_Mo_at [.ref 23, .int t, .long px, .long py] (ax_hp L xs c m o pool, u) (ax_mout L xs c o pool u (mp_at m t px py)) := by
  unfold mp_at
  split
  · (refine ax_run_T (ax_T_of M_Mo_at rfl (Nat.le_of_ble_eq_true rfl) ?_))
    (repeat' (first | refine w_iadd1 rfl ?_ | refine w_isub1 rfl ?_ | refine w_iinc1 rfl rfl ?_ | refine w_s rfl rfl ?_ | refine w_get rfl rfl rfl rfl ?_ | refine w_nnl rfl ?_ | refine w_nnlR rfl ?_ | refine w_nul rfl ?_ | refine w_nulR rfl ?_ | refine w_ldc rfl rfl ?_ | refine w_ldc2 rfl rfl ?_ | refine w_put rfl rfl rfl (Nat.le_of_ble_eq_true rfl) (Or.inl rfl) rfl rfl ?_ | ((first | refine w_if2 rfl (fun _ => ?_) (fun _ => ?_) | refine w_if1 rfl (fun _ => ?_) (fun _ => ?_)) <;> try (exfalso; (((try simp only [c_eq0, c_ne0, c_Llt, c_Lle, c_Lgt, c_Lge, c_Leq, c_Lne] at *); try simp only [ax_cnd, vp_in_iff, Int32.lt_iff_toInt_lt, Int32.le_iff_toInt_le, Int64.lt_iff_toInt_lt, Int64.le_iff_toInt_le, q_eq, q_eqL, q_lg, q_nI, q_add, q_sub, q_mul, q_neg, q_addL, q_subL, q_mulL, q_negL, q_i2l, q_l2i, q_b8, q_b16, q_ofI, q_lit, q_ofNL, q_litL, ne_eq, gt_iff_lt, ge_iff_le] at *) <;> omega); done)))) <;> (first | (refine w_iret rfl rfl rfl ?_; rfl) | (refine w_lret rfl rfl ?_; rfl) | (exfalso; (((try simp only [c_eq0, c_ne0, c_Llt, c_Lle, c_Lgt, c_Lge, c_Leq, c_Lne] at *); try simp only [ax_cnd, vp_in_iff, Int32.lt_iff_toInt_lt, Int32.le_iff_toInt_le, Int64.lt_iff_toInt_lt, Int64.le_iff_toInt_le, q_eq, q_eqL, q_lg, q_nI, q_add, q_sub, q_mul, q_neg, q_addL, q_subL, q_mulL, q_negL, q_i2l, q_l2i, q_b8, q_b16, q_ofI, q_lit, q_ofNL, q_litL, ne_eq, gt_iff_lt, ge_iff_le] at *) <;> omega)))
  · rename_i h1
    obtain ⟨n, rfl, hn1, hn2⟩ := q_nat (x := t) (by omega)
    rw [← hn1]
    show ax_run _ _ _ (ax_mout L xs c o pool u (if _ then _ else if m.x n = px ∧ m.y n = py then _ else (_, (ax_Mo.u_y (ax_Mo.u_x (ax_Mo.u_thrown m 0) (vp_updL m.x n px)) (vp_updL m.y n py)))))
    split
    · (refine ax_run_T (ax_T_of M_Mo_at rfl (Nat.le_of_ble_eq_true rfl) ?_))
      (repeat' (first | refine w_iadd1 rfl ?_ | refine w_isub1 rfl ?_ | refine w_iinc1 rfl rfl ?_ | refine w_s rfl rfl ?_ | refine w_get rfl rfl rfl rfl ?_ | refine w_nnl rfl ?_ | refine w_nnlR rfl ?_ | refine w_nul rfl ?_ | refine w_nulR rfl ?_ | refine w_ldc rfl rfl ?_ | refine w_ldc2 rfl rfl ?_ | refine w_put rfl rfl rfl (Nat.le_of_ble_eq_true rfl) (Or.inl rfl) rfl rfl ?_ | ((first | refine w_if2 rfl (fun _ => ?_) (fun _ => ?_) | refine w_if1 rfl (fun _ => ?_) (fun _ => ?_)) <;> try (exfalso; (((try simp only [c_eq0, c_ne0, c_Llt, c_Lle, c_Lgt, c_Lge, c_Leq, c_Lne] at *); try simp only [ax_cnd, vp_in_iff, Int32.lt_iff_toInt_lt, Int32.le_iff_toInt_le, Int64.lt_iff_toInt_lt, Int64.le_iff_toInt_le, q_eq, q_eqL, q_lg, q_nI, q_add, q_sub, q_mul, q_neg, q_addL, q_subL, q_mulL, q_negL, q_i2l, q_l2i, q_b8, q_b16, q_ofI, q_lit, q_ofNL, q_litL, ne_eq, gt_iff_lt, ge_iff_le] at *) <;> omega); done)))) <;> try (first | (refine w_iret rfl rfl rfl ?_; rfl) | (refine w_lret rfl rfl ?_; rfl) | (exfalso; (((try simp only [c_eq0, c_ne0, c_Llt, c_Lle, c_Lgt, c_Lge, c_Leq, c_Lne] at *); try simp only [ax_cnd, vp_in_iff, Int32.lt_iff_toInt_lt, Int32.le_iff_toInt_le, Int64.lt_iff_toInt_lt, Int64.le_iff_toInt_le, q_eq, q_eqL, q_lg, q_nI, q_add, q_sub, q_mul, q_neg, q_addL, q_subL, q_mulL, q_negL, q_i2l, q_l2i, q_b8, q_b16, q_ofI, q_lit, q_ofNL, q_litL, ne_eq, gt_iff_lt, ge_iff_le] at *) <;> omega)))
      (refine w_cs rfl rfl (by first | decide | exact Nat.le_of_ble_eq_true rfl) (by exact Nat.le_of_ble_eq_true rfl) (n_isPlace px) ?_; dsimp only [Option.toList, List.drop, List.cons_append, List.nil_append])
      (repeat' (first | refine w_iadd1 rfl ?_ | refine w_isub1 rfl ?_ | refine w_iinc1 rfl rfl ?_ | refine w_s rfl rfl ?_ | refine w_get rfl rfl rfl rfl ?_ | refine w_nnl rfl ?_ | refine w_nnlR rfl ?_ | refine w_nul rfl ?_ | refine w_nulR rfl ?_ | refine w_ldc rfl rfl ?_ | refine w_ldc2 rfl rfl ?_ | refine w_put rfl rfl rfl (Nat.le_of_ble_eq_true rfl) (Or.inl rfl) rfl rfl ?_ | ((first | refine w_if2 rfl (fun _ => ?_) (fun _ => ?_) | refine w_if1 rfl (fun _ => ?_) (fun _ => ?_)) <;> try (exfalso; (((try simp only [c_eq0, c_ne0, c_Llt, c_Lle, c_Lgt, c_Lge, c_Leq, c_Lne] at *); try simp only [ax_cnd, vp_in_iff, Int32.lt_iff_toInt_lt, Int32.le_iff_toInt_le, Int64.lt_iff_toInt_lt, Int64.le_iff_toInt_le, q_eq, q_eqL, q_lg, q_nI, q_add, q_sub, q_mul, q_neg, q_addL, q_subL, q_mulL, q_negL, q_i2l, q_l2i, q_b8, q_b16, q_ofI, q_lit, q_ofNL, q_litL, ne_eq, gt_iff_lt, ge_iff_le] at *) <;> omega); done)))) <;> try (first | (refine w_iret rfl rfl rfl ?_; rfl) | (refine w_lret rfl rfl ?_; rfl) | (exfalso; (((try simp only [c_eq0, c_ne0, c_Llt, c_Lle, c_Lgt, c_Lge, c_Leq, c_Lne] at *); try simp only [ax_cnd, vp_in_iff, Int32.lt_iff_toInt_lt, Int32.le_iff_toInt_le, Int64.lt_iff_toInt_lt, Int64.le_iff_toInt_le, q_eq, q_eqL, q_lg, q_nI, q_add, q_sub, q_mul, q_neg, q_addL, q_subL, q_mulL, q_negL, q_i2l, q_l2i, q_b8, q_b16, q_ofI, q_lit, q_ofNL, q_litL, ne_eq, gt_iff_lt, ge_iff_le] at *) <;> omega)))
      (refine w_cs rfl rfl (by first | decide | exact Nat.le_of_ble_eq_true rfl) (by exact Nat.le_of_ble_eq_true rfl) (n_isPlace py) ?_; dsimp only [Option.toList, List.drop, List.cons_append, List.nil_append])
      (repeat' (first | refine w_iadd1 rfl ?_ | refine w_isub1 rfl ?_ | refine w_iinc1 rfl rfl ?_ | refine w_s rfl rfl ?_ | refine w_get rfl rfl rfl rfl ?_ | refine w_nnl rfl ?_ | refine w_nnlR rfl ?_ | refine w_nul rfl ?_ | refine w_nulR rfl ?_ | refine w_ldc rfl rfl ?_ | refine w_ldc2 rfl rfl ?_ | refine w_put rfl rfl rfl (Nat.le_of_ble_eq_true rfl) (Or.inl rfl) rfl rfl ?_ | ((first | refine w_if2 rfl (fun _ => ?_) (fun _ => ?_) | refine w_if1 rfl (fun _ => ?_) (fun _ => ?_)) <;> try (exfalso; (((try simp only [c_eq0, c_ne0, c_Llt, c_Lle, c_Lgt, c_Lge, c_Leq, c_Lne] at *); try simp only [ax_cnd, vp_in_iff, Int32.lt_iff_toInt_lt, Int32.le_iff_toInt_le, Int64.lt_iff_toInt_lt, Int64.le_iff_toInt_le, q_eq, q_eqL, q_lg, q_nI, q_add, q_sub, q_mul, q_neg, q_addL, q_subL, q_mulL, q_negL, q_i2l, q_l2i, q_b8, q_b16, q_ofI, q_lit, q_ofNL, q_litL, ne_eq, gt_iff_lt, ge_iff_le] at *) <;> omega); done)))) <;> (first | (refine w_iret rfl rfl rfl ?_; rfl) | (refine w_lret rfl rfl ?_; rfl) | (exfalso; (((try simp only [c_eq0, c_ne0, c_Llt, c_Lle, c_Lgt, c_Lge, c_Leq, c_Lne] at *); try simp only [ax_cnd, vp_in_iff, Int32.lt_iff_toInt_lt, Int32.le_iff_toInt_le, Int64.lt_iff_toInt_lt, Int64.le_iff_toInt_le, q_eq, q_eqL, q_lg, q_nI, q_add, q_sub, q_mul, q_neg, q_addL, q_subL, q_mulL, q_negL, q_i2l, q_l2i, q_b8, q_b16, q_ofI, q_lit, q_ofNL, q_litL, ne_eq, gt_iff_lt, ge_iff_le] at *) <;> omega)))
    · rename_i h2
      (refine ax_run_T (ax_T_of M_Mo_at rfl (Nat.le_of_ble_eq_true rfl) ?_))
      (repeat' (first | refine w_iadd1 rfl ?_ | refine w_isub1 rfl ?_ | refine w_iinc1 rfl rfl ?_ | refine w_s rfl rfl ?_ | refine w_get rfl rfl rfl rfl ?_ | refine w_nnl rfl ?_ | refine w_nnlR rfl ?_ | refine w_nul rfl ?_ | refine w_nulR rfl ?_ | refine w_ldc rfl rfl ?_ | refine w_ldc2 rfl rfl ?_ | refine w_put rfl rfl rfl (Nat.le_of_ble_eq_true rfl) (Or.inl rfl) rfl rfl ?_ | ((first | refine w_if2 rfl (fun _ => ?_) (fun _ => ?_) | refine w_if1 rfl (fun _ => ?_) (fun _ => ?_)) <;> try (exfalso; (((try simp only [c_eq0, c_ne0, c_Llt, c_Lle, c_Lgt, c_Lge, c_Leq, c_Lne] at *); try simp only [ax_cnd, vp_in_iff, Int32.lt_iff_toInt_lt, Int32.le_iff_toInt_le, Int64.lt_iff_toInt_lt, Int64.le_iff_toInt_le, q_eq, q_eqL, q_lg, q_nI, q_add, q_sub, q_mul, q_neg, q_addL, q_subL, q_mulL, q_negL, q_i2l, q_l2i, q_b8, q_b16, q_ofI, q_lit, q_ofNL, q_litL, ne_eq, gt_iff_lt, ge_iff_le] at *) <;> omega); done)))) <;> try (first | (refine w_iret rfl rfl rfl ?_; rfl) | (refine w_lret rfl rfl ?_; rfl) | (exfalso; (((try simp only [c_eq0, c_ne0, c_Llt, c_Lle, c_Lgt, c_Lge, c_Leq, c_Lne] at *); try simp only [ax_cnd, vp_in_iff, Int32.lt_iff_toInt_lt, Int32.le_iff_toInt_le, Int64.lt_iff_toInt_lt, Int64.le_iff_toInt_le, q_eq, q_eqL, q_lg, q_nI, q_add, q_sub, q_mul, q_neg, q_addL, q_subL, q_mulL, q_negL, q_i2l, q_l2i, q_b8, q_b16, q_ofI, q_lit, q_ofNL, q_litL, ne_eq, gt_iff_lt, ge_iff_le] at *) <;> omega)))
      (refine w_cs rfl rfl (by first | decide | exact Nat.le_of_ble_eq_true rfl) (by exact Nat.le_of_ble_eq_true rfl) (n_isPlace px) ?_; dsimp only [Option.toList, List.drop, List.cons_append, List.nil_append])
      (repeat' (first | refine w_iadd1 rfl ?_ | refine w_isub1 rfl ?_ | refine w_iinc1 rfl rfl ?_ | refine w_s rfl rfl ?_ | refine w_get rfl rfl rfl rfl ?_ | refine w_nnl rfl ?_ | refine w_nnlR rfl ?_ | refine w_nul rfl ?_ | refine w_nulR rfl ?_ | refine w_ldc rfl rfl ?_ | refine w_ldc2 rfl rfl ?_ | refine w_put rfl rfl rfl (Nat.le_of_ble_eq_true rfl) (Or.inl rfl) rfl rfl ?_ | ((first | refine w_if2 rfl (fun _ => ?_) (fun _ => ?_) | refine w_if1 rfl (fun _ => ?_) (fun _ => ?_)) <;> try (exfalso; (((try simp only [c_eq0, c_ne0, c_Llt, c_Lle, c_Lgt, c_Lge, c_Leq, c_Lne] at *); try simp only [ax_cnd, vp_in_iff, Int32.lt_iff_toInt_lt, Int32.le_iff_toInt_le, Int64.lt_iff_toInt_lt, Int64.le_iff_toInt_le, q_eq, q_eqL, q_lg, q_nI, q_add, q_sub, q_mul, q_neg, q_addL, q_subL, q_mulL, q_negL, q_i2l, q_l2i, q_b8, q_b16, q_ofI, q_lit, q_ofNL, q_litL, ne_eq, gt_iff_lt, ge_iff_le] at *) <;> omega); done)))) <;> try (first | (refine w_iret rfl rfl rfl ?_; rfl) | (refine w_lret rfl rfl ?_; rfl) | (exfalso; (((try simp only [c_eq0, c_ne0, c_Llt, c_Lle, c_Lgt, c_Lge, c_Leq, c_Lne] at *); try simp only [ax_cnd, vp_in_iff, Int32.lt_iff_toInt_lt, Int32.le_iff_toInt_le, Int64.lt_iff_toInt_lt, Int64.le_iff_toInt_le, q_eq, q_eqL, q_lg, q_nI, q_add, q_sub, q_mul, q_neg, q_addL, q_subL, q_mulL, q_negL, q_i2l, q_l2i, q_b8, q_b16, q_ofI, q_lit, q_ofNL, q_litL, ne_eq, gt_iff_lt, ge_iff_le] at *) <;> omega)))
      (refine w_cs rfl rfl (by first | decide | exact Nat.le_of_ble_eq_true rfl) (by exact Nat.le_of_ble_eq_true rfl) (n_isPlace py) ?_; dsimp only [Option.toList, List.drop, List.cons_append, List.nil_append])
      (repeat' (first | refine w_iadd1 rfl ?_ | refine w_isub1 rfl ?_ | refine w_iinc1 rfl rfl ?_ | refine w_s rfl rfl ?_ | refine w_get rfl rfl rfl rfl ?_ | refine w_nnl rfl ?_ | refine w_nnlR rfl ?_ | refine w_nul rfl ?_ | refine w_nulR rfl ?_ | refine w_ldc rfl rfl ?_ | refine w_ldc2 rfl rfl ?_ | refine w_put rfl rfl rfl (Nat.le_of_ble_eq_true rfl) (Or.inl rfl) rfl rfl ?_ | ((first | refine w_if2 rfl (fun _ => ?_) (fun _ => ?_) | refine w_if1 rfl (fun _ => ?_) (fun _ => ?_)) <;> try (exfalso; (((try simp only [c_eq0, c_ne0, c_Llt, c_Lle, c_Lgt, c_Lge, c_Leq, c_Lne] at *); try simp only [ax_cnd, vp_in_iff, Int32.lt_iff_toInt_lt, Int32.le_iff_toInt_le, Int64.lt_iff_toInt_lt, Int64.le_iff_toInt_le, q_eq, q_eqL, q_lg, q_nI, q_add, q_sub, q_mul, q_neg, q_addL, q_subL, q_mulL, q_negL, q_i2l, q_l2i, q_b8, q_b16, q_ofI, q_lit, q_ofNL, q_litL, ne_eq, gt_iff_lt, ge_iff_le] at *) <;> omega); done)))) <;> try (first | (refine w_iret rfl rfl rfl ?_; rfl) | (refine w_lret rfl rfl ?_; rfl) | (exfalso; (((try simp only [c_eq0, c_ne0, c_Llt, c_Lle, c_Lgt, c_Lge, c_Leq, c_Lne] at *); try simp only [ax_cnd, vp_in_iff, Int32.lt_iff_toInt_lt, Int32.le_iff_toInt_le, Int64.lt_iff_toInt_lt, Int64.le_iff_toInt_le, q_eq, q_eqL, q_lg, q_nI, q_add, q_sub, q_mul, q_neg, q_addL, q_subL, q_mulL, q_negL, q_i2l, q_l2i, q_b8, q_b16, q_ofI, q_lit, q_ofNL, q_litL, ne_eq, gt_iff_lt, ge_iff_le] at *) <;> omega)))
      refine w_la rfl rfl rfl (by omega) (by decide) ?_
      (repeat (first | refine w_iadd1 rfl ?_ | refine w_isub1 rfl ?_ | refine w_iinc1 rfl rfl ?_ | refine w_s rfl rfl ?_ | refine w_get rfl rfl rfl rfl ?_ | refine w_nnl rfl ?_ | refine w_nnlR rfl ?_ | refine w_nul rfl ?_ | refine w_nulR rfl ?_ | refine w_ldc rfl rfl ?_ | refine w_ldc2 rfl rfl ?_ | refine w_put rfl rfl rfl (Nat.le_of_ble_eq_true rfl) (Or.inl rfl) rfl rfl ?_))
      refine w_if1 rfl (fun h3 => ?_) (fun h3 => ?_)
      · have h4 : ¬ m.x n = px := fun z => h3 ((lg_cmp_eq _ _).mpr z)
        rw [if_neg (fun z => h4 z.1)]
        (repeat (first | refine w_iadd1 rfl ?_ | refine w_isub1 rfl ?_ | refine w_iinc1 rfl rfl ?_ | refine w_s rfl rfl ?_ | refine w_get rfl rfl rfl rfl ?_ | refine w_nnl rfl ?_ | refine w_nnlR rfl ?_ | refine w_nul rfl ?_ | refine w_nulR rfl ?_ | refine w_ldc rfl rfl ?_ | refine w_ldc2 rfl rfl ?_ | refine w_put rfl rfl rfl (Nat.le_of_ble_eq_true rfl) (Or.inl rfl) rfl rfl ?_))
        refine w_las rfl rfl rfl (by omega) (by decide) ?_
        (repeat (first | refine w_iadd1 rfl ?_ | refine w_isub1 rfl ?_ | refine w_iinc1 rfl rfl ?_ | refine w_s rfl rfl ?_ | refine w_get rfl rfl rfl rfl ?_ | refine w_nnl rfl ?_ | refine w_nnlR rfl ?_ | refine w_nul rfl ?_ | refine w_nulR rfl ?_ | refine w_ldc rfl rfl ?_ | refine w_ldc2 rfl rfl ?_ | refine w_put rfl rfl rfl (Nat.le_of_ble_eq_true rfl) (Or.inl rfl) rfl rfl ?_))
        refine w_las rfl rfl rfl (by omega) (by decide) ?_
        (repeat (first | refine w_iadd1 rfl ?_ | refine w_isub1 rfl ?_ | refine w_iinc1 rfl rfl ?_ | refine w_s rfl rfl ?_ | refine w_get rfl rfl rfl rfl ?_ | refine w_nnl rfl ?_ | refine w_nnlR rfl ?_ | refine w_nul rfl ?_ | refine w_nulR rfl ?_ | refine w_ldc rfl rfl ?_ | refine w_ldc2 rfl rfl ?_ | refine w_put rfl rfl rfl (Nat.le_of_ble_eq_true rfl) (Or.inl rfl) rfl rfl ?_))
        (refine w_iret rfl rfl rfl ?_); rfl
      · have h4 : m.x n = px := (lg_cmp_eq _ _).mp (Decidable.not_not.mp h3)
        (repeat (first | refine w_iadd1 rfl ?_ | refine w_isub1 rfl ?_ | refine w_iinc1 rfl rfl ?_ | refine w_s rfl rfl ?_ | refine w_get rfl rfl rfl rfl ?_ | refine w_nnl rfl ?_ | refine w_nnlR rfl ?_ | refine w_nul rfl ?_ | refine w_nulR rfl ?_ | refine w_ldc rfl rfl ?_ | refine w_ldc2 rfl rfl ?_ | refine w_put rfl rfl rfl (Nat.le_of_ble_eq_true rfl) (Or.inl rfl) rfl rfl ?_))
        refine w_la rfl rfl rfl (by omega) (by decide) ?_
        (repeat (first | refine w_iadd1 rfl ?_ | refine w_isub1 rfl ?_ | refine w_iinc1 rfl rfl ?_ | refine w_s rfl rfl ?_ | refine w_get rfl rfl rfl rfl ?_ | refine w_nnl rfl ?_ | refine w_nnlR rfl ?_ | refine w_nul rfl ?_ | refine w_nulR rfl ?_ | refine w_ldc rfl rfl ?_ | refine w_ldc2 rfl rfl ?_ | refine w_put rfl rfl rfl (Nat.le_of_ble_eq_true rfl) (Or.inl rfl) rfl rfl ?_))
        refine w_if1 rfl (fun h5 => ?_) (fun h5 => ?_)
        · have h6 : ¬ m.y n = py := fun z => h5 ((lg_cmp_eq _ _).mpr z)
          rw [if_neg (fun z => h6 z.2)]
          (repeat (first | refine w_iadd1 rfl ?_ | refine w_isub1 rfl ?_ | refine w_iinc1 rfl rfl ?_ | refine w_s rfl rfl ?_ | refine w_get rfl rfl rfl rfl ?_ | refine w_nnl rfl ?_ | refine w_nnlR rfl ?_ | refine w_nul rfl ?_ | refine w_nulR rfl ?_ | refine w_ldc rfl rfl ?_ | refine w_ldc2 rfl rfl ?_ | refine w_put rfl rfl rfl (Nat.le_of_ble_eq_true rfl) (Or.inl rfl) rfl rfl ?_))
          refine w_las rfl rfl rfl (by omega) (by decide) ?_
          (repeat (first | refine w_iadd1 rfl ?_ | refine w_isub1 rfl ?_ | refine w_iinc1 rfl rfl ?_ | refine w_s rfl rfl ?_ | refine w_get rfl rfl rfl rfl ?_ | refine w_nnl rfl ?_ | refine w_nnlR rfl ?_ | refine w_nul rfl ?_ | refine w_nulR rfl ?_ | refine w_ldc rfl rfl ?_ | refine w_ldc2 rfl rfl ?_ | refine w_put rfl rfl rfl (Nat.le_of_ble_eq_true rfl) (Or.inl rfl) rfl rfl ?_))
          refine w_las rfl rfl rfl (by omega) (by decide) ?_
          (repeat (first | refine w_iadd1 rfl ?_ | refine w_isub1 rfl ?_ | refine w_iinc1 rfl rfl ?_ | refine w_s rfl rfl ?_ | refine w_get rfl rfl rfl rfl ?_ | refine w_nnl rfl ?_ | refine w_nnlR rfl ?_ | refine w_nul rfl ?_ | refine w_nulR rfl ?_ | refine w_ldc rfl rfl ?_ | refine w_ldc2 rfl rfl ?_ | refine w_put rfl rfl rfl (Nat.le_of_ble_eq_true rfl) (Or.inl rfl) rfl rfl ?_))
          (refine w_iret rfl rfl rfl ?_); rfl
        · have h6 : m.y n = py := (lg_cmp_eq _ _).mp (Decidable.not_not.mp h5)
          rw [if_pos ⟨h4, h6⟩]
          (repeat (first | refine w_iadd1 rfl ?_ | refine w_isub1 rfl ?_ | refine w_iinc1 rfl rfl ?_ | refine w_s rfl rfl ?_ | refine w_get rfl rfl rfl rfl ?_ | refine w_nnl rfl ?_ | refine w_nnlR rfl ?_ | refine w_nul rfl ?_ | refine w_nulR rfl ?_ | refine w_ldc rfl rfl ?_ | refine w_ldc2 rfl rfl ?_ | refine w_put rfl rfl rfl (Nat.le_of_ble_eq_true rfl) (Or.inl rfl) rfl rfl ?_))
          (refine w_iret rfl rfl rfl ?_); rfl
end MA
end
section
section MB
variable {L : Nat} {xs : Nat → Int32} {c : ax_St} {m : ax_Mo} {o : Nat → Int64} {pool : List (Option ax_C)} {u : Nat} {h : ax_H}
def mp_rmk (m : ax_Mo) (k w : Nat) : Int32 := match w with
  | 0 => m.remarkOf k
  | 1 => m.kinds (m.remarkOf k).toInt.toNat
  | 2 => (m.excess k).toInt32
  | 3 => m.layers (m.remarkOf k).toInt.toNat
  | 4 => (m.x (m.remarkOf k).toInt.toNat).toInt32
  | _ => (m.y (m.remarkOf k).toInt.toNat).toInt32
def mp_remark (m : ax_Mo) (k w : Int32) : Value × ax_Mo :=
  if ¬ (0 ≤ w.toInt ∧ w.toInt < 6) then (.int 0, (ax_Mo.u_thrown m 1)) else if ¬ (0 ≤ k.toInt ∧ k.toInt < m.remarks) then (.int (-1), (ax_Mo.u_thrown m 0)) else (.int (mp_rmk m k.toInt.toNat w.toInt.toNat), (ax_Mo.u_thrown m 0))
theorem n_remark (k w : Int32) (hn : m.remarks ≤ 60) (hb : m.things ≤ 60) (hr : ∀ k, k < m.remarks → ∃ t, t < m.things ∧ m.remarkOf k = nI t) : ax_run m_Mo_remark [.ref 23, .int k, .int w] (ax_hp L xs c m o pool, u) (ax_mout L xs c o pool u (mp_remark m k w)) := by
  unfold mp_remark
  split
  · (refine ax_run_T (ax_T_of M_Mo_remark rfl (Nat.le_of_ble_eq_true rfl) ?_))
    (repeat' (first | refine w_iadd1 rfl ?_ | refine w_isub1 rfl ?_ | refine w_iinc1 rfl rfl ?_ | refine w_s rfl rfl ?_ | refine w_get rfl rfl rfl rfl ?_ | refine w_nnl rfl ?_ | refine w_nnlR rfl ?_ | refine w_nul rfl ?_ | refine w_nulR rfl ?_ | refine w_ldc rfl rfl ?_ | refine w_ldc2 rfl rfl ?_ | refine w_put rfl rfl rfl (Nat.le_of_ble_eq_true rfl) (Or.inl rfl) rfl rfl ?_ | ((first | refine w_if2 rfl (fun _ => ?_) (fun _ => ?_) | refine w_if1 rfl (fun _ => ?_) (fun _ => ?_)) <;> try (exfalso; (((try simp only [c_eq0, c_ne0, c_Llt, c_Lle, c_Lgt, c_Lge, c_Leq, c_Lne] at *); try simp only [ax_cnd, vp_in_iff, Int32.lt_iff_toInt_lt, Int32.le_iff_toInt_le, Int64.lt_iff_toInt_lt, Int64.le_iff_toInt_le, q_eq, q_eqL, q_lg, q_nI, q_add, q_sub, q_mul, q_neg, q_addL, q_subL, q_mulL, q_negL, q_i2l, q_l2i, q_b8, q_b16, q_ofI, q_lit, q_ofNL, q_litL, ne_eq, gt_iff_lt, ge_iff_le] at *) <;> omega); done)))) <;> (first | (refine w_iret rfl rfl rfl ?_; rfl) | (refine w_lret rfl rfl ?_; rfl) | (exfalso; (((try simp only [c_eq0, c_ne0, c_Llt, c_Lle, c_Lgt, c_Lge, c_Leq, c_Lne] at *); try simp only [ax_cnd, vp_in_iff, Int32.lt_iff_toInt_lt, Int32.le_iff_toInt_le, Int64.lt_iff_toInt_lt, Int64.le_iff_toInt_le, q_eq, q_eqL, q_lg, q_nI, q_add, q_sub, q_mul, q_neg, q_addL, q_subL, q_mulL, q_negL, q_i2l, q_l2i, q_b8, q_b16, q_ofI, q_lit, q_ofNL, q_litL, ne_eq, gt_iff_lt, ge_iff_le] at *) <;> omega)))
  · split
    · (refine ax_run_T (ax_T_of M_Mo_remark rfl (Nat.le_of_ble_eq_true rfl) ?_))
      (repeat' (first | refine w_iadd1 rfl ?_ | refine w_isub1 rfl ?_ | refine w_iinc1 rfl rfl ?_ | refine w_s rfl rfl ?_ | refine w_get rfl rfl rfl rfl ?_ | refine w_nnl rfl ?_ | refine w_nnlR rfl ?_ | refine w_nul rfl ?_ | refine w_nulR rfl ?_ | refine w_ldc rfl rfl ?_ | refine w_ldc2 rfl rfl ?_ | refine w_put rfl rfl rfl (Nat.le_of_ble_eq_true rfl) (Or.inl rfl) rfl rfl ?_ | ((first | refine w_if2 rfl (fun _ => ?_) (fun _ => ?_) | refine w_if1 rfl (fun _ => ?_) (fun _ => ?_)) <;> try (exfalso; (((try simp only [c_eq0, c_ne0, c_Llt, c_Lle, c_Lgt, c_Lge, c_Leq, c_Lne] at *); try simp only [ax_cnd, vp_in_iff, Int32.lt_iff_toInt_lt, Int32.le_iff_toInt_le, Int64.lt_iff_toInt_lt, Int64.le_iff_toInt_le, q_eq, q_eqL, q_lg, q_nI, q_add, q_sub, q_mul, q_neg, q_addL, q_subL, q_mulL, q_negL, q_i2l, q_l2i, q_b8, q_b16, q_ofI, q_lit, q_ofNL, q_litL, ne_eq, gt_iff_lt, ge_iff_le] at *) <;> omega); done)))) <;> (first | (refine w_iret rfl rfl rfl ?_; rfl) | (refine w_lret rfl rfl ?_; rfl) | (exfalso; (((try simp only [c_eq0, c_ne0, c_Llt, c_Lle, c_Lgt, c_Lge, c_Leq, c_Lne] at *); try simp only [ax_cnd, vp_in_iff, Int32.lt_iff_toInt_lt, Int32.le_iff_toInt_le, Int64.lt_iff_toInt_lt, Int64.le_iff_toInt_le, q_eq, q_eqL, q_lg, q_nI, q_add, q_sub, q_mul, q_neg, q_addL, q_subL, q_mulL, q_negL, q_i2l, q_l2i, q_b8, q_b16, q_ofI, q_lit, q_ofNL, q_litL, ne_eq, gt_iff_lt, ge_iff_le] at *) <;> omega)))
    · rename_i h1 h2
      obtain ⟨j, rfl, hj1, hj2⟩ := q_nat (x := k) (by omega)
      obtain ⟨v, rfl, hv1, hv2⟩ := q_nat (x := w) (by omega)
      obtain ⟨t, ht1, ht2⟩ := hr j (by omega)
      have htt : (nI t).toInt.toNat = t := by rw [nI_toInt (by omega)]; rfl
      rw [← hj1, ← hv1]
      (refine ax_run_T (ax_T_of M_Mo_remark rfl (Nat.le_of_ble_eq_true rfl) ?_))
      (repeat' (first | refine w_iadd1 rfl ?_ | refine w_isub1 rfl ?_ | refine w_iinc1 rfl rfl ?_ | refine w_s rfl rfl ?_ | refine w_get rfl rfl rfl rfl ?_ | refine w_nnl rfl ?_ | refine w_nnlR rfl ?_ | refine w_nul rfl ?_ | refine w_nulR rfl ?_ | refine w_ldc rfl rfl ?_ | refine w_ldc2 rfl rfl ?_ | refine w_put rfl rfl rfl (Nat.le_of_ble_eq_true rfl) (Or.inl rfl) rfl rfl ?_ | ((first | refine w_if2 rfl (fun _ => ?_) (fun _ => ?_) | refine w_if1 rfl (fun _ => ?_) (fun _ => ?_)) <;> try (exfalso; (((try simp only [c_eq0, c_ne0, c_Llt, c_Lle, c_Lgt, c_Lge, c_Leq, c_Lne] at *); try simp only [ax_cnd, vp_in_iff, Int32.lt_iff_toInt_lt, Int32.le_iff_toInt_le, Int64.lt_iff_toInt_lt, Int64.le_iff_toInt_le, q_eq, q_eqL, q_lg, q_nI, q_add, q_sub, q_mul, q_neg, q_addL, q_subL, q_mulL, q_negL, q_i2l, q_l2i, q_b8, q_b16, q_ofI, q_lit, q_ofNL, q_litL, ne_eq, gt_iff_lt, ge_iff_le] at *) <;> omega); done)))) <;> try (first | (refine w_iret rfl rfl rfl ?_; rfl) | (refine w_lret rfl rfl ?_; rfl) | (exfalso; (((try simp only [c_eq0, c_ne0, c_Llt, c_Lle, c_Lgt, c_Lge, c_Leq, c_Lne] at *); try simp only [ax_cnd, vp_in_iff, Int32.lt_iff_toInt_lt, Int32.le_iff_toInt_le, Int64.lt_iff_toInt_lt, Int64.le_iff_toInt_le, q_eq, q_eqL, q_lg, q_nI, q_add, q_sub, q_mul, q_neg, q_addL, q_subL, q_mulL, q_negL, q_i2l, q_l2i, q_b8, q_b16, q_ofI, q_lit, q_ofNL, q_litL, ne_eq, gt_iff_lt, ge_iff_le] at *) <;> omega)))
      refine w_ia rfl rfl rfl (by omega) (by decide) ?_
      rw [ht2]
      (repeat (first | refine w_iadd1 rfl ?_ | refine w_isub1 rfl ?_ | refine w_iinc1 rfl rfl ?_ | refine w_s rfl rfl ?_ | refine w_get rfl rfl rfl rfl ?_ | refine w_nnl rfl ?_ | refine w_nnlR rfl ?_ | refine w_nul rfl ?_ | refine w_nulR rfl ?_ | refine w_ldc rfl rfl ?_ | refine w_ldc2 rfl rfl ?_ | refine w_put rfl rfl rfl (Nat.le_of_ble_eq_true rfl) (Or.inl rfl) rfl rfl ?_))
      have hv : v = 0 ∨ v = 1 ∨ v = 2 ∨ v = 3 ∨ v = 4 ∨ v = 5 := by omega
      rcases hv with rfl | rfl | rfl | rfl | rfl | rfl
      · refine w_tsw rfl rfl ?_
        (repeat (first | refine w_iadd1 rfl ?_ | refine w_isub1 rfl ?_ | refine w_iinc1 rfl rfl ?_ | refine w_s rfl rfl ?_ | refine w_get rfl rfl rfl rfl ?_ | refine w_nnl rfl ?_ | refine w_nnlR rfl ?_ | refine w_nul rfl ?_ | refine w_nulR rfl ?_ | refine w_ldc rfl rfl ?_ | refine w_ldc2 rfl rfl ?_ | refine w_put rfl rfl rfl (Nat.le_of_ble_eq_true rfl) (Or.inl rfl) rfl rfl ?_))
        (refine w_iret rfl rfl rfl ?_)
        show _ = ax_mout _ _ _ _ _ _ (Value.int (m.remarkOf j), _)
        rw [ht2]
        try rfl
      · refine w_tsw rfl rfl ?_
        (repeat (first | refine w_iadd1 rfl ?_ | refine w_isub1 rfl ?_ | refine w_iinc1 rfl rfl ?_ | refine w_s rfl rfl ?_ | refine w_get rfl rfl rfl rfl ?_ | refine w_nnl rfl ?_ | refine w_nnlR rfl ?_ | refine w_nul rfl ?_ | refine w_nulR rfl ?_ | refine w_ldc rfl rfl ?_ | refine w_ldc2 rfl rfl ?_ | refine w_put rfl rfl rfl (Nat.le_of_ble_eq_true rfl) (Or.inl rfl) rfl rfl ?_))
        refine w_ia rfl rfl rfl (by omega) (by decide) ?_
        (refine w_iret rfl rfl rfl ?_)
        show _ = ax_mout _ _ _ _ _ _ (Value.int (m.kinds (m.remarkOf j).toInt.toNat), _)
        rw [ht2, htt]
        try rfl
      · refine w_tsw rfl rfl ?_
        (repeat (first | refine w_iadd1 rfl ?_ | refine w_isub1 rfl ?_ | refine w_iinc1 rfl rfl ?_ | refine w_s rfl rfl ?_ | refine w_get rfl rfl rfl rfl ?_ | refine w_nnl rfl ?_ | refine w_nnlR rfl ?_ | refine w_nul rfl ?_ | refine w_nulR rfl ?_ | refine w_ldc rfl rfl ?_ | refine w_ldc2 rfl rfl ?_ | refine w_put rfl rfl rfl (Nat.le_of_ble_eq_true rfl) (Or.inl rfl) rfl rfl ?_))
        refine w_la rfl rfl rfl (by omega) (by decide) ?_
        (repeat (first | refine w_iadd1 rfl ?_ | refine w_isub1 rfl ?_ | refine w_iinc1 rfl rfl ?_ | refine w_s rfl rfl ?_ | refine w_get rfl rfl rfl rfl ?_ | refine w_nnl rfl ?_ | refine w_nnlR rfl ?_ | refine w_nul rfl ?_ | refine w_nulR rfl ?_ | refine w_ldc rfl rfl ?_ | refine w_ldc2 rfl rfl ?_ | refine w_put rfl rfl rfl (Nat.le_of_ble_eq_true rfl) (Or.inl rfl) rfl rfl ?_))
        (refine w_iret rfl rfl rfl ?_)
        rfl
      · refine w_tsw rfl rfl ?_
        (repeat (first | refine w_iadd1 rfl ?_ | refine w_isub1 rfl ?_ | refine w_iinc1 rfl rfl ?_ | refine w_s rfl rfl ?_ | refine w_get rfl rfl rfl rfl ?_ | refine w_nnl rfl ?_ | refine w_nnlR rfl ?_ | refine w_nul rfl ?_ | refine w_nulR rfl ?_ | refine w_ldc rfl rfl ?_ | refine w_ldc2 rfl rfl ?_ | refine w_put rfl rfl rfl (Nat.le_of_ble_eq_true rfl) (Or.inl rfl) rfl rfl ?_))
        refine w_ia rfl rfl rfl (by omega) (by decide) ?_
        (refine w_iret rfl rfl rfl ?_)
        show _ = ax_mout _ _ _ _ _ _ (Value.int (m.layers (m.remarkOf j).toInt.toNat), _)
        rw [ht2, htt]
        try rfl
      · refine w_tsw rfl rfl ?_
        (repeat (first | refine w_iadd1 rfl ?_ | refine w_isub1 rfl ?_ | refine w_iinc1 rfl rfl ?_ | refine w_s rfl rfl ?_ | refine w_get rfl rfl rfl rfl ?_ | refine w_nnl rfl ?_ | refine w_nnlR rfl ?_ | refine w_nul rfl ?_ | refine w_nulR rfl ?_ | refine w_ldc rfl rfl ?_ | refine w_ldc2 rfl rfl ?_ | refine w_put rfl rfl rfl (Nat.le_of_ble_eq_true rfl) (Or.inl rfl) rfl rfl ?_))
        refine w_la rfl rfl rfl (by omega) (by decide) ?_
        (repeat (first | refine w_iadd1 rfl ?_ | refine w_isub1 rfl ?_ | refine w_iinc1 rfl rfl ?_ | refine w_s rfl rfl ?_ | refine w_get rfl rfl rfl rfl ?_ | refine w_nnl rfl ?_ | refine w_nnlR rfl ?_ | refine w_nul rfl ?_ | refine w_nulR rfl ?_ | refine w_ldc rfl rfl ?_ | refine w_ldc2 rfl rfl ?_ | refine w_put rfl rfl rfl (Nat.le_of_ble_eq_true rfl) (Or.inl rfl) rfl rfl ?_))
        (refine w_iret rfl rfl rfl ?_)
        show _ = ax_mout _ _ _ _ _ _ (Value.int (m.x (m.remarkOf j).toInt.toNat).toInt32, _)
        rw [ht2, htt]
        try rfl
      · refine w_tsw rfl rfl ?_
        (repeat (first | refine w_iadd1 rfl ?_ | refine w_isub1 rfl ?_ | refine w_iinc1 rfl rfl ?_ | refine w_s rfl rfl ?_ | refine w_get rfl rfl rfl rfl ?_ | refine w_nnl rfl ?_ | refine w_nnlR rfl ?_ | refine w_nul rfl ?_ | refine w_nulR rfl ?_ | refine w_ldc rfl rfl ?_ | refine w_ldc2 rfl rfl ?_ | refine w_put rfl rfl rfl (Nat.le_of_ble_eq_true rfl) (Or.inl rfl) rfl rfl ?_))
        refine w_la rfl rfl rfl (by omega) (by decide) ?_
        (repeat (first | refine w_iadd1 rfl ?_ | refine w_isub1 rfl ?_ | refine w_iinc1 rfl rfl ?_ | refine w_s rfl rfl ?_ | refine w_get rfl rfl rfl rfl ?_ | refine w_nnl rfl ?_ | refine w_nnlR rfl ?_ | refine w_nul rfl ?_ | refine w_nulR rfl ?_ | refine w_ldc rfl rfl ?_ | refine w_ldc2 rfl rfl ?_ | refine w_put rfl rfl rfl (Nat.le_of_ble_eq_true rfl) (Or.inl rfl) rfl rfl ?_))
        (refine w_iret rfl rfl rfl ?_)
        show _ = ax_mout _ _ _ _ _ _ (Value.int (m.y (m.remarkOf j).toInt.toNat).toInt32, _)
        rw [ht2, htt]
        try rfl
def mp_history (m : ax_Mo) (k w : Int32) : Value × ax_Mo :=
  if ¬ (0 ≤ k.toInt ∧ k.toInt < m.orders ∧ 0 ≤ w.toInt ∧ w.toInt < 7) then (.int 0, (ax_Mo.u_thrown m 1)) else (.int (m.orderRow (7 * k.toInt.toNat + w.toInt.toNat)).toInt32, (ax_Mo.u_thrown m 0))
theorem n_history (k w : Int32) (hn : m.orders ≤ 20) : ax_run m_Mo_history [.ref 23, .int k, .int w] (ax_hp L xs c m o pool, u) (ax_mout L xs c o pool u (mp_history m k w)) := by
  unfold mp_history
  split
  · (refine ax_run_T (ax_T_of M_Mo_history rfl (Nat.le_of_ble_eq_true rfl) ?_))
    (repeat' (first | refine w_iadd1 rfl ?_ | refine w_isub1 rfl ?_ | refine w_iinc1 rfl rfl ?_ | refine w_s rfl rfl ?_ | refine w_get rfl rfl rfl rfl ?_ | refine w_nnl rfl ?_ | refine w_nnlR rfl ?_ | refine w_nul rfl ?_ | refine w_nulR rfl ?_ | refine w_ldc rfl rfl ?_ | refine w_ldc2 rfl rfl ?_ | refine w_put rfl rfl rfl (Nat.le_of_ble_eq_true rfl) (Or.inl rfl) rfl rfl ?_ | ((first | refine w_if2 rfl (fun _ => ?_) (fun _ => ?_) | refine w_if1 rfl (fun _ => ?_) (fun _ => ?_)) <;> try (exfalso; (((try simp only [c_eq0, c_ne0, c_Llt, c_Lle, c_Lgt, c_Lge, c_Leq, c_Lne] at *); try simp only [ax_cnd, vp_in_iff, Int32.lt_iff_toInt_lt, Int32.le_iff_toInt_le, Int64.lt_iff_toInt_lt, Int64.le_iff_toInt_le, q_eq, q_eqL, q_lg, q_nI, q_add, q_sub, q_mul, q_neg, q_addL, q_subL, q_mulL, q_negL, q_i2l, q_l2i, q_b8, q_b16, q_ofI, q_lit, q_ofNL, q_litL, ne_eq, gt_iff_lt, ge_iff_le] at *) <;> omega); done)))) <;> (first | (refine w_iret rfl rfl rfl ?_; rfl) | (refine w_lret rfl rfl ?_; rfl) | (exfalso; (((try simp only [c_eq0, c_ne0, c_Llt, c_Lle, c_Lgt, c_Lge, c_Leq, c_Lne] at *); try simp only [ax_cnd, vp_in_iff, Int32.lt_iff_toInt_lt, Int32.le_iff_toInt_le, Int64.lt_iff_toInt_lt, Int64.le_iff_toInt_le, q_eq, q_eqL, q_lg, q_nI, q_add, q_sub, q_mul, q_neg, q_addL, q_subL, q_mulL, q_negL, q_i2l, q_l2i, q_b8, q_b16, q_ofI, q_lit, q_ofNL, q_litL, ne_eq, gt_iff_lt, ge_iff_le] at *) <;> omega)))
  · rename_i h1
    obtain ⟨j, rfl, hj1, hj2⟩ := q_nat (x := k) (by omega)
    obtain ⟨v, rfl, hv1, hv2⟩ := q_nat (x := w) (by omega)
    rw [← hj1, ← hv1]
    (refine ax_run_T (ax_T_of M_Mo_history rfl (Nat.le_of_ble_eq_true rfl) ?_))
    (repeat' (first | refine w_iadd1 rfl ?_ | refine w_isub1 rfl ?_ | refine w_iinc1 rfl rfl ?_ | refine w_s rfl rfl ?_ | refine w_get rfl rfl rfl rfl ?_ | refine w_nnl rfl ?_ | refine w_nnlR rfl ?_ | refine w_nul rfl ?_ | refine w_nulR rfl ?_ | refine w_ldc rfl rfl ?_ | refine w_ldc2 rfl rfl ?_ | refine w_put rfl rfl rfl (Nat.le_of_ble_eq_true rfl) (Or.inl rfl) rfl rfl ?_ | ((first | refine w_if2 rfl (fun _ => ?_) (fun _ => ?_) | refine w_if1 rfl (fun _ => ?_) (fun _ => ?_)) <;> try (exfalso; (((try simp only [c_eq0, c_ne0, c_Llt, c_Lle, c_Lgt, c_Lge, c_Leq, c_Lne] at *); try simp only [ax_cnd, vp_in_iff, Int32.lt_iff_toInt_lt, Int32.le_iff_toInt_le, Int64.lt_iff_toInt_lt, Int64.le_iff_toInt_le, q_eq, q_eqL, q_lg, q_nI, q_add, q_sub, q_mul, q_neg, q_addL, q_subL, q_mulL, q_negL, q_i2l, q_l2i, q_b8, q_b16, q_ofI, q_lit, q_ofNL, q_litL, ne_eq, gt_iff_lt, ge_iff_le] at *) <;> omega); done)))) <;> try (first | (refine w_iret rfl rfl rfl ?_; rfl) | (refine w_lret rfl rfl ?_; rfl) | (exfalso; (((try simp only [c_eq0, c_ne0, c_Llt, c_Lle, c_Lgt, c_Lge, c_Leq, c_Lne] at *); try simp only [ax_cnd, vp_in_iff, Int32.lt_iff_toInt_lt, Int32.le_iff_toInt_le, Int64.lt_iff_toInt_lt, Int64.le_iff_toInt_le, q_eq, q_eqL, q_lg, q_nI, q_add, q_sub, q_mul, q_neg, q_addL, q_subL, q_mulL, q_negL, q_i2l, q_l2i, q_b8, q_b16, q_ofI, q_lit, q_ofNL, q_litL, ne_eq, gt_iff_lt, ge_iff_le] at *) <;> omega)))
    refine w_la (j := 7 * j + v) rfl rfl (by (((try simp only [c_eq0, c_ne0, c_Llt, c_Lle, c_Lgt, c_Lge, c_Leq, c_Lne] at *); try simp only [ax_cnd, vp_in_iff, Int32.lt_iff_toInt_lt, Int32.le_iff_toInt_le, Int64.lt_iff_toInt_lt, Int64.le_iff_toInt_le, q_eq, q_eqL, q_lg, q_nI, q_add, q_sub, q_mul, q_neg, q_addL, q_subL, q_mulL, q_negL, q_i2l, q_l2i, q_b8, q_b16, q_ofI, q_lit, q_ofNL, q_litL, ne_eq, gt_iff_lt, ge_iff_le] at *) <;> omega)) (by omega) (by decide) ?_
    (repeat (first | refine w_iadd1 rfl ?_ | refine w_isub1 rfl ?_ | refine w_iinc1 rfl rfl ?_ | refine w_s rfl rfl ?_ | refine w_get rfl rfl rfl rfl ?_ | refine w_nnl rfl ?_ | refine w_nnlR rfl ?_ | refine w_nul rfl ?_ | refine w_nulR rfl ?_ | refine w_ldc rfl rfl ?_ | refine w_ldc2 rfl rfl ?_ | refine w_put rfl rfl rfl (Nat.le_of_ble_eq_true rfl) (Or.inl rfl) rfl rfl ?_))
    (refine w_iret rfl rfl rfl ?_); rfl
def mp_share (m : ax_Mo) (a q : Int64) (k : Int32) : Value × ax_Mo :=
  if ¬ (1 ≤ q.toInt ∧ q.toInt ≤ 1000000 ∧ 0 ≤ a.toInt) then (.long 0, (ax_Mo.u_thrown m 2)) else if ¬ (0 ≤ k.toInt ∧ k.toInt < q.toInt) then (.long 0, (ax_Mo.u_thrown m 1)) else (.long (a / q + (if k.toInt < (a - a / q * q).toInt then 1 else 0)), (ax_Mo.u_thrown m 0))
theorem n_share (a q : Int64) (k : Int32) : ax_run m_Mo_share [.ref 23, .long a, .long q, .int k] (ax_hp L xs c m o pool, u) (ax_mout L xs c o pool u (mp_share m a q k)) := by
  unfold mp_share
  split
  · (refine ax_run_T (ax_T_of M_Mo_share rfl (Nat.le_of_ble_eq_true rfl) ?_))
    (repeat (first | refine w_iadd1 rfl ?_ | refine w_isub1 rfl ?_ | refine w_iinc1 rfl rfl ?_ | refine w_s rfl rfl ?_ | refine w_get rfl rfl rfl rfl ?_ | refine w_nnl rfl ?_ | refine w_nnlR rfl ?_ | refine w_nul rfl ?_ | refine w_nulR rfl ?_ | refine w_ldc rfl rfl ?_ | refine w_ldc2 rfl rfl ?_ | refine w_put rfl rfl rfl (Nat.le_of_ble_eq_true rfl) (Or.inl rfl) rfl rfl ?_))
    (refine w_cs rfl rfl (by first | decide | exact Nat.le_of_ble_eq_true rfl) (by exact Nat.le_of_ble_eq_true rfl) (n_isQuantity q) ?_; dsimp only [Option.toList, List.drop, List.cons_append, List.nil_append])
    (repeat' (first | refine w_iadd1 rfl ?_ | refine w_isub1 rfl ?_ | refine w_iinc1 rfl rfl ?_ | refine w_s rfl rfl ?_ | refine w_get rfl rfl rfl rfl ?_ | refine w_nnl rfl ?_ | refine w_nnlR rfl ?_ | refine w_nul rfl ?_ | refine w_nulR rfl ?_ | refine w_ldc rfl rfl ?_ | refine w_ldc2 rfl rfl ?_ | refine w_put rfl rfl rfl (Nat.le_of_ble_eq_true rfl) (Or.inl rfl) rfl rfl ?_ | ((first | refine w_if2 rfl (fun _ => ?_) (fun _ => ?_) | refine w_if1 rfl (fun _ => ?_) (fun _ => ?_)) <;> try (exfalso; (((try simp only [c_eq0, c_ne0, c_Llt, c_Lle, c_Lgt, c_Lge, c_Leq, c_Lne] at *); try simp only [ax_cnd, vp_in_iff, Int32.lt_iff_toInt_lt, Int32.le_iff_toInt_le, Int64.lt_iff_toInt_lt, Int64.le_iff_toInt_le, q_eq, q_eqL, q_lg, q_nI, q_add, q_sub, q_mul, q_neg, q_addL, q_subL, q_mulL, q_negL, q_i2l, q_l2i, q_b8, q_b16, q_ofI, q_lit, q_ofNL, q_litL, ne_eq, gt_iff_lt, ge_iff_le] at *) <;> omega); done)))) <;> (first | (refine w_iret rfl rfl rfl ?_; rfl) | (refine w_lret rfl rfl ?_; rfl) | (exfalso; (((try simp only [c_eq0, c_ne0, c_Llt, c_Lle, c_Lgt, c_Lge, c_Leq, c_Lne] at *); try simp only [ax_cnd, vp_in_iff, Int32.lt_iff_toInt_lt, Int32.le_iff_toInt_le, Int64.lt_iff_toInt_lt, Int64.le_iff_toInt_le, q_eq, q_eqL, q_lg, q_nI, q_add, q_sub, q_mul, q_neg, q_addL, q_subL, q_mulL, q_negL, q_i2l, q_l2i, q_b8, q_b16, q_ofI, q_lit, q_ofNL, q_litL, ne_eq, gt_iff_lt, ge_iff_le] at *) <;> omega)))
  · split
    · (refine ax_run_T (ax_T_of M_Mo_share rfl (Nat.le_of_ble_eq_true rfl) ?_))
      (repeat (first | refine w_iadd1 rfl ?_ | refine w_isub1 rfl ?_ | refine w_iinc1 rfl rfl ?_ | refine w_s rfl rfl ?_ | refine w_get rfl rfl rfl rfl ?_ | refine w_nnl rfl ?_ | refine w_nnlR rfl ?_ | refine w_nul rfl ?_ | refine w_nulR rfl ?_ | refine w_ldc rfl rfl ?_ | refine w_ldc2 rfl rfl ?_ | refine w_put rfl rfl rfl (Nat.le_of_ble_eq_true rfl) (Or.inl rfl) rfl rfl ?_))
      (refine w_cs rfl rfl (by first | decide | exact Nat.le_of_ble_eq_true rfl) (by exact Nat.le_of_ble_eq_true rfl) (n_isQuantity q) ?_; dsimp only [Option.toList, List.drop, List.cons_append, List.nil_append])
      (repeat' (first | refine w_iadd1 rfl ?_ | refine w_isub1 rfl ?_ | refine w_iinc1 rfl rfl ?_ | refine w_s rfl rfl ?_ | refine w_get rfl rfl rfl rfl ?_ | refine w_nnl rfl ?_ | refine w_nnlR rfl ?_ | refine w_nul rfl ?_ | refine w_nulR rfl ?_ | refine w_ldc rfl rfl ?_ | refine w_ldc2 rfl rfl ?_ | refine w_put rfl rfl rfl (Nat.le_of_ble_eq_true rfl) (Or.inl rfl) rfl rfl ?_ | ((first | refine w_if2 rfl (fun _ => ?_) (fun _ => ?_) | refine w_if1 rfl (fun _ => ?_) (fun _ => ?_)) <;> try (exfalso; (((try simp only [c_eq0, c_ne0, c_Llt, c_Lle, c_Lgt, c_Lge, c_Leq, c_Lne] at *); try simp only [ax_cnd, vp_in_iff, Int32.lt_iff_toInt_lt, Int32.le_iff_toInt_le, Int64.lt_iff_toInt_lt, Int64.le_iff_toInt_le, q_eq, q_eqL, q_lg, q_nI, q_add, q_sub, q_mul, q_neg, q_addL, q_subL, q_mulL, q_negL, q_i2l, q_l2i, q_b8, q_b16, q_ofI, q_lit, q_ofNL, q_litL, ne_eq, gt_iff_lt, ge_iff_le] at *) <;> omega); done)))) <;> (first | (refine w_iret rfl rfl rfl ?_; rfl) | (refine w_lret rfl rfl ?_; rfl) | (exfalso; (((try simp only [c_eq0, c_ne0, c_Llt, c_Lle, c_Lgt, c_Lge, c_Leq, c_Lne] at *); try simp only [ax_cnd, vp_in_iff, Int32.lt_iff_toInt_lt, Int32.le_iff_toInt_le, Int64.lt_iff_toInt_lt, Int64.le_iff_toInt_le, q_eq, q_eqL, q_lg, q_nI, q_add, q_sub, q_mul, q_neg, q_addL, q_subL, q_mulL, q_negL, q_i2l, q_l2i, q_b8, q_b16, q_ofI, q_lit, q_ofNL, q_litL, ne_eq, gt_iff_lt, ge_iff_le] at *) <;> omega)))
    · (refine ax_run_T (ax_T_of M_Mo_share rfl (Nat.le_of_ble_eq_true rfl) ?_))
      (repeat (first | refine w_iadd1 rfl ?_ | refine w_isub1 rfl ?_ | refine w_iinc1 rfl rfl ?_ | refine w_s rfl rfl ?_ | refine w_get rfl rfl rfl rfl ?_ | refine w_nnl rfl ?_ | refine w_nnlR rfl ?_ | refine w_nul rfl ?_ | refine w_nulR rfl ?_ | refine w_ldc rfl rfl ?_ | refine w_ldc2 rfl rfl ?_ | refine w_put rfl rfl rfl (Nat.le_of_ble_eq_true rfl) (Or.inl rfl) rfl rfl ?_))
      (refine w_cs rfl rfl (by first | decide | exact Nat.le_of_ble_eq_true rfl) (by exact Nat.le_of_ble_eq_true rfl) (n_isQuantity q) ?_; dsimp only [Option.toList, List.drop, List.cons_append, List.nil_append])
      (repeat' (first | refine w_iadd1 rfl ?_ | refine w_isub1 rfl ?_ | refine w_iinc1 rfl rfl ?_ | refine w_s rfl rfl ?_ | refine w_get rfl rfl rfl rfl ?_ | refine w_nnl rfl ?_ | refine w_nnlR rfl ?_ | refine w_nul rfl ?_ | refine w_nulR rfl ?_ | refine w_ldc rfl rfl ?_ | refine w_ldc2 rfl rfl ?_ | refine w_put rfl rfl rfl (Nat.le_of_ble_eq_true rfl) (Or.inl rfl) rfl rfl ?_ | ((first | refine w_if2 rfl (fun _ => ?_) (fun _ => ?_) | refine w_if1 rfl (fun _ => ?_) (fun _ => ?_)) <;> try (exfalso; (((try simp only [c_eq0, c_ne0, c_Llt, c_Lle, c_Lgt, c_Lge, c_Leq, c_Lne] at *); try simp only [ax_cnd, vp_in_iff, Int32.lt_iff_toInt_lt, Int32.le_iff_toInt_le, Int64.lt_iff_toInt_lt, Int64.le_iff_toInt_le, q_eq, q_eqL, q_lg, q_nI, q_add, q_sub, q_mul, q_neg, q_addL, q_subL, q_mulL, q_negL, q_i2l, q_l2i, q_b8, q_b16, q_ofI, q_lit, q_ofNL, q_litL, ne_eq, gt_iff_lt, ge_iff_le] at *) <;> omega); done)))) <;> try (first | (refine w_iret rfl rfl rfl ?_; rfl) | (refine w_lret rfl rfl ?_; rfl) | (exfalso; (((try simp only [c_eq0, c_ne0, c_Llt, c_Lle, c_Lgt, c_Lge, c_Leq, c_Lne] at *); try simp only [ax_cnd, vp_in_iff, Int32.lt_iff_toInt_lt, Int32.le_iff_toInt_le, Int64.lt_iff_toInt_lt, Int64.le_iff_toInt_le, q_eq, q_eqL, q_lg, q_nI, q_add, q_sub, q_mul, q_neg, q_addL, q_subL, q_mulL, q_negL, q_i2l, q_l2i, q_b8, q_b16, q_ofI, q_lit, q_ofNL, q_litL, ne_eq, gt_iff_lt, ge_iff_le] at *) <;> omega)))
      refine w_ldiv rfl (by (((try simp only [c_eq0, c_ne0, c_Llt, c_Lle, c_Lgt, c_Lge, c_Leq, c_Lne] at *); try simp only [ax_cnd, vp_in_iff, Int32.lt_iff_toInt_lt, Int32.le_iff_toInt_le, Int64.lt_iff_toInt_lt, Int64.le_iff_toInt_le, q_eq, q_eqL, q_lg, q_nI, q_add, q_sub, q_mul, q_neg, q_addL, q_subL, q_mulL, q_negL, q_i2l, q_l2i, q_b8, q_b16, q_ofI, q_lit, q_ofNL, q_litL, ne_eq, gt_iff_lt, ge_iff_le] at *) <;> omega)) ?_
      (repeat (first | refine w_iadd1 rfl ?_ | refine w_isub1 rfl ?_ | refine w_iinc1 rfl rfl ?_ | refine w_s rfl rfl ?_ | refine w_get rfl rfl rfl rfl ?_ | refine w_nnl rfl ?_ | refine w_nnlR rfl ?_ | refine w_nul rfl ?_ | refine w_nulR rfl ?_ | refine w_ldc rfl rfl ?_ | refine w_ldc2 rfl rfl ?_ | refine w_put rfl rfl rfl (Nat.le_of_ble_eq_true rfl) (Or.inl rfl) rfl rfl ?_))
      refine w_lrem rfl (by (((try simp only [c_eq0, c_ne0, c_Llt, c_Lle, c_Lgt, c_Lge, c_Leq, c_Lne] at *); try simp only [ax_cnd, vp_in_iff, Int32.lt_iff_toInt_lt, Int32.le_iff_toInt_le, Int64.lt_iff_toInt_lt, Int64.le_iff_toInt_le, q_eq, q_eqL, q_lg, q_nI, q_add, q_sub, q_mul, q_neg, q_addL, q_subL, q_mulL, q_negL, q_i2l, q_l2i, q_b8, q_b16, q_ofI, q_lit, q_ofNL, q_litL, ne_eq, gt_iff_lt, ge_iff_le] at *) <;> omega)) ?_
      (repeat (first | refine w_iadd1 rfl ?_ | refine w_isub1 rfl ?_ | refine w_iinc1 rfl rfl ?_ | refine w_s rfl rfl ?_ | refine w_get rfl rfl rfl rfl ?_ | refine w_nnl rfl ?_ | refine w_nnlR rfl ?_ | refine w_nul rfl ?_ | refine w_nulR rfl ?_ | refine w_ldc rfl rfl ?_ | refine w_ldc2 rfl rfl ?_ | refine w_put rfl rfl rfl (Nat.le_of_ble_eq_true rfl) (Or.inl rfl) rfl rfl ?_))
      refine w_if1 rfl (fun h1 => ?_) (fun h1 => ?_)
      · (repeat (first | refine w_iadd1 rfl ?_ | refine w_isub1 rfl ?_ | refine w_iinc1 rfl rfl ?_ | refine w_s rfl rfl ?_ | refine w_get rfl rfl rfl rfl ?_ | refine w_nnl rfl ?_ | refine w_nnlR rfl ?_ | refine w_nul rfl ?_ | refine w_nulR rfl ?_ | refine w_ldc rfl rfl ?_ | refine w_ldc2 rfl rfl ?_ | refine w_put rfl rfl rfl (Nat.le_of_ble_eq_true rfl) (Or.inl rfl) rfl rfl ?_))
        refine w_lret rfl rfl ?_
        rw [if_neg (by have h2 := (lg_cmp_ge _ _).mp h1; rw [Int64.le_iff_toInt_le, q_i2l] at h2; omega)]
        rfl
      · (repeat (first | refine w_iadd1 rfl ?_ | refine w_isub1 rfl ?_ | refine w_iinc1 rfl rfl ?_ | refine w_s rfl rfl ?_ | refine w_get rfl rfl rfl rfl ?_ | refine w_nnl rfl ?_ | refine w_nnlR rfl ?_ | refine w_nul rfl ?_ | refine w_nulR rfl ?_ | refine w_ldc rfl rfl ?_ | refine w_ldc2 rfl rfl ?_ | refine w_put rfl rfl rfl (Nat.le_of_ble_eq_true rfl) (Or.inl rfl) rfl rfl ?_))
        refine w_lret rfl rfl ?_
        rw [if_pos (by have h2 : ¬ (a - a / q * q ≤ k.toInt64) := fun z => h1 ((lg_cmp_ge _ _).mpr z); rw [Int64.le_iff_toInt_le, q_i2l] at h2; omega)]
        rfl
def mp_copper (m : ax_Mo) (l k : Int32) (a b : Int64) : Value × ax_Mo :=
  if ¬ (0 ≤ l.toInt ∧ l.toInt < 8 ∧ 0 ≤ k.toInt ∧ k.toInt < 16) then (.int 0, (ax_Mo.u_thrown m 1)) else if ¬ (1 ≤ b.toInt ∧ b.toInt ≤ 10 ∧ 0 ≤ a.toInt ∧ a.toInt ≤ b.toInt) then (.int 0, (ax_Mo.u_thrown m 2))
  else (.int (bI (¬ (m.above (16 * l.toInt.toNat + k.toInt.toNat) = a ∧ m.below (16 * l.toInt.toNat + k.toInt.toNat) = b))), (ax_Mo.u_below (ax_Mo.u_above (ax_Mo.u_thrown m 0) (vp_updL m.above (16 * l.toInt.toNat + k.toInt.toNat) a)) (vp_updL m.below (16 * l.toInt.toNat + k.toInt.toNat) b)))
theorem n_copper (l k : Int32) (a b : Int64) : ax_run m_Mo_copper [.ref 23, .int l, .int k, .long a, .long b] (ax_hp L xs c m o pool, u) (ax_mout L xs c o pool u (mp_copper m l k a b)) := by
  unfold mp_copper
  split
  · (refine ax_run_T (ax_T_of M_Mo_copper rfl (Nat.le_of_ble_eq_true rfl) ?_))
    (repeat' (first | refine w_iadd1 rfl ?_ | refine w_isub1 rfl ?_ | refine w_iinc1 rfl rfl ?_ | refine w_s rfl rfl ?_ | refine w_get rfl rfl rfl rfl ?_ | refine w_nnl rfl ?_ | refine w_nnlR rfl ?_ | refine w_nul rfl ?_ | refine w_nulR rfl ?_ | refine w_ldc rfl rfl ?_ | refine w_ldc2 rfl rfl ?_ | refine w_put rfl rfl rfl (Nat.le_of_ble_eq_true rfl) (Or.inl rfl) rfl rfl ?_ | ((first | refine w_if2 rfl (fun _ => ?_) (fun _ => ?_) | refine w_if1 rfl (fun _ => ?_) (fun _ => ?_)) <;> try (exfalso; (((try simp only [c_eq0, c_ne0, c_Llt, c_Lle, c_Lgt, c_Lge, c_Leq, c_Lne] at *); try simp only [ax_cnd, vp_in_iff, Int32.lt_iff_toInt_lt, Int32.le_iff_toInt_le, Int64.lt_iff_toInt_lt, Int64.le_iff_toInt_le, q_eq, q_eqL, q_lg, q_nI, q_add, q_sub, q_mul, q_neg, q_addL, q_subL, q_mulL, q_negL, q_i2l, q_l2i, q_b8, q_b16, q_ofI, q_lit, q_ofNL, q_litL, ne_eq, gt_iff_lt, ge_iff_le] at *) <;> omega); done)))) <;> try (first | (refine w_iret rfl rfl rfl ?_; rfl) | (refine w_lret rfl rfl ?_; rfl) | (exfalso; (((try simp only [c_eq0, c_ne0, c_Llt, c_Lle, c_Lgt, c_Lge, c_Leq, c_Lne] at *); try simp only [ax_cnd, vp_in_iff, Int32.lt_iff_toInt_lt, Int32.le_iff_toInt_le, Int64.lt_iff_toInt_lt, Int64.le_iff_toInt_le, q_eq, q_eqL, q_lg, q_nI, q_add, q_sub, q_mul, q_neg, q_addL, q_subL, q_mulL, q_negL, q_i2l, q_l2i, q_b8, q_b16, q_ofI, q_lit, q_ofNL, q_litL, ne_eq, gt_iff_lt, ge_iff_le] at *) <;> omega)))
    all_goals ((refine w_cs rfl rfl (by first | decide | exact Nat.le_of_ble_eq_true rfl) (by exact Nat.le_of_ble_eq_true rfl) (n_isCell l k) ?_; dsimp only [Option.toList, List.drop, List.cons_append, List.nil_append]); (repeat' (first | refine w_iadd1 rfl ?_ | refine w_isub1 rfl ?_ | refine w_iinc1 rfl rfl ?_ | refine w_s rfl rfl ?_ | refine w_get rfl rfl rfl rfl ?_ | refine w_nnl rfl ?_ | refine w_nnlR rfl ?_ | refine w_nul rfl ?_ | refine w_nulR rfl ?_ | refine w_ldc rfl rfl ?_ | refine w_ldc2 rfl rfl ?_ | refine w_put rfl rfl rfl (Nat.le_of_ble_eq_true rfl) (Or.inl rfl) rfl rfl ?_ | ((first | refine w_if2 rfl (fun _ => ?_) (fun _ => ?_) | refine w_if1 rfl (fun _ => ?_) (fun _ => ?_)) <;> try (exfalso; (((try simp only [c_eq0, c_ne0, c_Llt, c_Lle, c_Lgt, c_Lge, c_Leq, c_Lne] at *); try simp only [ax_cnd, vp_in_iff, Int32.lt_iff_toInt_lt, Int32.le_iff_toInt_le, Int64.lt_iff_toInt_lt, Int64.le_iff_toInt_le, q_eq, q_eqL, q_lg, q_nI, q_add, q_sub, q_mul, q_neg, q_addL, q_subL, q_mulL, q_negL, q_i2l, q_l2i, q_b8, q_b16, q_ofI, q_lit, q_ofNL, q_litL, ne_eq, gt_iff_lt, ge_iff_le] at *) <;> omega); done)))) <;> (first | (refine w_iret rfl rfl rfl ?_; rfl) | (refine w_lret rfl rfl ?_; rfl) | (exfalso; (((try simp only [c_eq0, c_ne0, c_Llt, c_Lle, c_Lgt, c_Lge, c_Leq, c_Lne] at *); try simp only [ax_cnd, vp_in_iff, Int32.lt_iff_toInt_lt, Int32.le_iff_toInt_le, Int64.lt_iff_toInt_lt, Int64.le_iff_toInt_le, q_eq, q_eqL, q_lg, q_nI, q_add, q_sub, q_mul, q_neg, q_addL, q_subL, q_mulL, q_negL, q_i2l, q_l2i, q_b8, q_b16, q_ofI, q_lit, q_ofNL, q_litL, ne_eq, gt_iff_lt, ge_iff_le] at *) <;> omega))))
  · split
    · (refine ax_run_T (ax_T_of M_Mo_copper rfl (Nat.le_of_ble_eq_true rfl) ?_))
      (repeat' (first | refine w_iadd1 rfl ?_ | refine w_isub1 rfl ?_ | refine w_iinc1 rfl rfl ?_ | refine w_s rfl rfl ?_ | refine w_get rfl rfl rfl rfl ?_ | refine w_nnl rfl ?_ | refine w_nnlR rfl ?_ | refine w_nul rfl ?_ | refine w_nulR rfl ?_ | refine w_ldc rfl rfl ?_ | refine w_ldc2 rfl rfl ?_ | refine w_put rfl rfl rfl (Nat.le_of_ble_eq_true rfl) (Or.inl rfl) rfl rfl ?_ | ((first | refine w_if2 rfl (fun _ => ?_) (fun _ => ?_) | refine w_if1 rfl (fun _ => ?_) (fun _ => ?_)) <;> try (exfalso; (((try simp only [c_eq0, c_ne0, c_Llt, c_Lle, c_Lgt, c_Lge, c_Leq, c_Lne] at *); try simp only [ax_cnd, vp_in_iff, Int32.lt_iff_toInt_lt, Int32.le_iff_toInt_le, Int64.lt_iff_toInt_lt, Int64.le_iff_toInt_le, q_eq, q_eqL, q_lg, q_nI, q_add, q_sub, q_mul, q_neg, q_addL, q_subL, q_mulL, q_negL, q_i2l, q_l2i, q_b8, q_b16, q_ofI, q_lit, q_ofNL, q_litL, ne_eq, gt_iff_lt, ge_iff_le] at *) <;> omega); done)))) <;> try (first | (refine w_iret rfl rfl rfl ?_; rfl) | (refine w_lret rfl rfl ?_; rfl) | (exfalso; (((try simp only [c_eq0, c_ne0, c_Llt, c_Lle, c_Lgt, c_Lge, c_Leq, c_Lne] at *); try simp only [ax_cnd, vp_in_iff, Int32.lt_iff_toInt_lt, Int32.le_iff_toInt_le, Int64.lt_iff_toInt_lt, Int64.le_iff_toInt_le, q_eq, q_eqL, q_lg, q_nI, q_add, q_sub, q_mul, q_neg, q_addL, q_subL, q_mulL, q_negL, q_i2l, q_l2i, q_b8, q_b16, q_ofI, q_lit, q_ofNL, q_litL, ne_eq, gt_iff_lt, ge_iff_le] at *) <;> omega)))
      all_goals ((refine w_cs rfl rfl (by first | decide | exact Nat.le_of_ble_eq_true rfl) (by exact Nat.le_of_ble_eq_true rfl) (n_isCell l k) ?_; dsimp only [Option.toList, List.drop, List.cons_append, List.nil_append]); (repeat' (first | refine w_iadd1 rfl ?_ | refine w_isub1 rfl ?_ | refine w_iinc1 rfl rfl ?_ | refine w_s rfl rfl ?_ | refine w_get rfl rfl rfl rfl ?_ | refine w_nnl rfl ?_ | refine w_nnlR rfl ?_ | refine w_nul rfl ?_ | refine w_nulR rfl ?_ | refine w_ldc rfl rfl ?_ | refine w_ldc2 rfl rfl ?_ | refine w_put rfl rfl rfl (Nat.le_of_ble_eq_true rfl) (Or.inl rfl) rfl rfl ?_ | ((first | refine w_if2 rfl (fun _ => ?_) (fun _ => ?_) | refine w_if1 rfl (fun _ => ?_) (fun _ => ?_)) <;> try (exfalso; (((try simp only [c_eq0, c_ne0, c_Llt, c_Lle, c_Lgt, c_Lge, c_Leq, c_Lne] at *); try simp only [ax_cnd, vp_in_iff, Int32.lt_iff_toInt_lt, Int32.le_iff_toInt_le, Int64.lt_iff_toInt_lt, Int64.le_iff_toInt_le, q_eq, q_eqL, q_lg, q_nI, q_add, q_sub, q_mul, q_neg, q_addL, q_subL, q_mulL, q_negL, q_i2l, q_l2i, q_b8, q_b16, q_ofI, q_lit, q_ofNL, q_litL, ne_eq, gt_iff_lt, ge_iff_le] at *) <;> omega); done)))) <;> (first | (refine w_iret rfl rfl rfl ?_; rfl) | (refine w_lret rfl rfl ?_; rfl) | (exfalso; (((try simp only [c_eq0, c_ne0, c_Llt, c_Lle, c_Lgt, c_Lge, c_Leq, c_Lne] at *); try simp only [ax_cnd, vp_in_iff, Int32.lt_iff_toInt_lt, Int32.le_iff_toInt_le, Int64.lt_iff_toInt_lt, Int64.le_iff_toInt_le, q_eq, q_eqL, q_lg, q_nI, q_add, q_sub, q_mul, q_neg, q_addL, q_subL, q_mulL, q_negL, q_i2l, q_l2i, q_b8, q_b16, q_ofI, q_lit, q_ofNL, q_litL, ne_eq, gt_iff_lt, ge_iff_le] at *) <;> omega))))
    · rename_i h1 h2
      obtain ⟨j, rfl, hj1, hj2⟩ := q_nat (x := l) (by omega)
      obtain ⟨v, rfl, hv1, hv2⟩ := q_nat (x := k) (by omega)
      rw [← hj1, ← hv1]
      have hix : (Int8.ofInt 16).toInt32 * nI j + nI v = nI (16 * j + v) := (q_idx _ _ _ j v 16 (by omega) (by omega) (by rw [q_b8]; rfl) (by decide) (q_nI' (by omega)) (q_nI' (by omega))).1
      (refine ax_run_T (ax_T_of M_Mo_copper rfl (Nat.le_of_ble_eq_true rfl) ?_))
      (repeat' (first | refine w_iadd1 rfl ?_ | refine w_isub1 rfl ?_ | refine w_iinc1 rfl rfl ?_ | refine w_s rfl rfl ?_ | refine w_get rfl rfl rfl rfl ?_ | refine w_nnl rfl ?_ | refine w_nnlR rfl ?_ | refine w_nul rfl ?_ | refine w_nulR rfl ?_ | refine w_ldc rfl rfl ?_ | refine w_ldc2 rfl rfl ?_ | refine w_put rfl rfl rfl (Nat.le_of_ble_eq_true rfl) (Or.inl rfl) rfl rfl ?_ | ((first | refine w_if2 rfl (fun _ => ?_) (fun _ => ?_) | refine w_if1 rfl (fun _ => ?_) (fun _ => ?_)) <;> try (exfalso; (((try simp only [c_eq0, c_ne0, c_Llt, c_Lle, c_Lgt, c_Lge, c_Leq, c_Lne] at *); try simp only [ax_cnd, vp_in_iff, Int32.lt_iff_toInt_lt, Int32.le_iff_toInt_le, Int64.lt_iff_toInt_lt, Int64.le_iff_toInt_le, q_eq, q_eqL, q_lg, q_nI, q_add, q_sub, q_mul, q_neg, q_addL, q_subL, q_mulL, q_negL, q_i2l, q_l2i, q_b8, q_b16, q_ofI, q_lit, q_ofNL, q_litL, ne_eq, gt_iff_lt, ge_iff_le] at *) <;> omega); done)))) <;> try (first | (refine w_iret rfl rfl rfl ?_; rfl) | (refine w_lret rfl rfl ?_; rfl) | (exfalso; (((try simp only [c_eq0, c_ne0, c_Llt, c_Lle, c_Lgt, c_Lge, c_Leq, c_Lne] at *); try simp only [ax_cnd, vp_in_iff, Int32.lt_iff_toInt_lt, Int32.le_iff_toInt_le, Int64.lt_iff_toInt_lt, Int64.le_iff_toInt_le, q_eq, q_eqL, q_lg, q_nI, q_add, q_sub, q_mul, q_neg, q_addL, q_subL, q_mulL, q_negL, q_i2l, q_l2i, q_b8, q_b16, q_ofI, q_lit, q_ofNL, q_litL, ne_eq, gt_iff_lt, ge_iff_le] at *) <;> omega)))
      (refine w_cs rfl rfl (by first | decide | exact Nat.le_of_ble_eq_true rfl) (by exact Nat.le_of_ble_eq_true rfl) (n_isCell (nI j) (nI v)) ?_; dsimp only [Option.toList, List.drop, List.cons_append, List.nil_append])
      (repeat' (first | refine w_iadd1 rfl ?_ | refine w_isub1 rfl ?_ | refine w_iinc1 rfl rfl ?_ | refine w_s rfl rfl ?_ | refine w_get rfl rfl rfl rfl ?_ | refine w_nnl rfl ?_ | refine w_nnlR rfl ?_ | refine w_nul rfl ?_ | refine w_nulR rfl ?_ | refine w_ldc rfl rfl ?_ | refine w_ldc2 rfl rfl ?_ | refine w_put rfl rfl rfl (Nat.le_of_ble_eq_true rfl) (Or.inl rfl) rfl rfl ?_ | ((first | refine w_if2 rfl (fun _ => ?_) (fun _ => ?_) | refine w_if1 rfl (fun _ => ?_) (fun _ => ?_)) <;> try (exfalso; (((try simp only [c_eq0, c_ne0, c_Llt, c_Lle, c_Lgt, c_Lge, c_Leq, c_Lne] at *); try simp only [ax_cnd, vp_in_iff, Int32.lt_iff_toInt_lt, Int32.le_iff_toInt_le, Int64.lt_iff_toInt_lt, Int64.le_iff_toInt_le, q_eq, q_eqL, q_lg, q_nI, q_add, q_sub, q_mul, q_neg, q_addL, q_subL, q_mulL, q_negL, q_i2l, q_l2i, q_b8, q_b16, q_ofI, q_lit, q_ofNL, q_litL, ne_eq, gt_iff_lt, ge_iff_le] at *) <;> omega); done)))) <;> try (first | (refine w_iret rfl rfl rfl ?_; rfl) | (refine w_lret rfl rfl ?_; rfl) | (exfalso; (((try simp only [c_eq0, c_ne0, c_Llt, c_Lle, c_Lgt, c_Lge, c_Leq, c_Lne] at *); try simp only [ax_cnd, vp_in_iff, Int32.lt_iff_toInt_lt, Int32.le_iff_toInt_le, Int64.lt_iff_toInt_lt, Int64.le_iff_toInt_le, q_eq, q_eqL, q_lg, q_nI, q_add, q_sub, q_mul, q_neg, q_addL, q_subL, q_mulL, q_negL, q_i2l, q_l2i, q_b8, q_b16, q_ofI, q_lit, q_ofNL, q_litL, ne_eq, gt_iff_lt, ge_iff_le] at *) <;> omega)))
      refine w_la (j := 16 * j + v) rfl rfl hix (by omega) (by decide) ?_
      have fin : ∀ (z : Int32) (i : Int32), i = nI (16 * j + v) → z = bI (¬ (m.above (16 * j + v) = a ∧ m.below (16 * j + v) = b)) → ax_wp ax_run M_Mo_copper (fun r' => r' = ax_mout L xs c o pool u (.int (bI (¬ (m.above (16 * j + v) = a ∧ m.below (16 * j + v) = b))), (ax_Mo.u_below (ax_Mo.u_above (ax_Mo.u_thrown m 0) (vp_updL m.above (16 * j + v) a)) (vp_updL m.below (16 * j + v) b)))) 111 [(9, .int z), (0, .ref 23), (8, .int i), (3, .long a), (5, .long b)] [] (ax_hp L xs c (ax_Mo.u_thrown m 0) o pool, u) := by
        intro z i hi hz
        subst hi
        (repeat (first | refine w_iadd1 rfl ?_ | refine w_isub1 rfl ?_ | refine w_iinc1 rfl rfl ?_ | refine w_s rfl rfl ?_ | refine w_get rfl rfl rfl rfl ?_ | refine w_nnl rfl ?_ | refine w_nnlR rfl ?_ | refine w_nul rfl ?_ | refine w_nulR rfl ?_ | refine w_ldc rfl rfl ?_ | refine w_ldc2 rfl rfl ?_ | refine w_put rfl rfl rfl (Nat.le_of_ble_eq_true rfl) (Or.inl rfl) rfl rfl ?_))
        refine w_las rfl rfl rfl (by omega) (by decide) ?_
        (repeat (first | refine w_iadd1 rfl ?_ | refine w_isub1 rfl ?_ | refine w_iinc1 rfl rfl ?_ | refine w_s rfl rfl ?_ | refine w_get rfl rfl rfl rfl ?_ | refine w_nnl rfl ?_ | refine w_nnlR rfl ?_ | refine w_nul rfl ?_ | refine w_nulR rfl ?_ | refine w_ldc rfl rfl ?_ | refine w_ldc2 rfl rfl ?_ | refine w_put rfl rfl rfl (Nat.le_of_ble_eq_true rfl) (Or.inl rfl) rfl rfl ?_))
        refine w_las rfl rfl rfl (by omega) (by decide) ?_
        (repeat (first | refine w_iadd1 rfl ?_ | refine w_isub1 rfl ?_ | refine w_iinc1 rfl rfl ?_ | refine w_s rfl rfl ?_ | refine w_get rfl rfl rfl rfl ?_ | refine w_nnl rfl ?_ | refine w_nnlR rfl ?_ | refine w_nul rfl ?_ | refine w_nulR rfl ?_ | refine w_ldc rfl rfl ?_ | refine w_ldc2 rfl rfl ?_ | refine w_put rfl rfl rfl (Nat.le_of_ble_eq_true rfl) (Or.inl rfl) rfl rfl ?_))
        refine w_iret rfl rfl (by rw [hz]; exact bI_nar) ?_
        rw [hz]
        rfl
      (repeat (first | refine w_iadd1 rfl ?_ | refine w_isub1 rfl ?_ | refine w_iinc1 rfl rfl ?_ | refine w_s rfl rfl ?_ | refine w_get rfl rfl rfl rfl ?_ | refine w_nnl rfl ?_ | refine w_nnlR rfl ?_ | refine w_nul rfl ?_ | refine w_nulR rfl ?_ | refine w_ldc rfl rfl ?_ | refine w_ldc2 rfl rfl ?_ | refine w_put rfl rfl rfl (Nat.le_of_ble_eq_true rfl) (Or.inl rfl) rfl rfl ?_))
      refine w_if1 rfl (fun h3 => ?_) (fun h3 => ?_)
      · have h4 : ¬ m.above (16 * j + v) = a := fun z => h3 ((lg_cmp_eq _ _).mpr z)
        (repeat ((fail_if_success (show ax_wp _ _ _ 111 _ _ _)); (first | refine w_iadd1 rfl ?_ | refine w_isub1 rfl ?_ | refine w_iinc1 rfl rfl ?_ | refine w_s rfl rfl ?_ | refine w_get rfl rfl rfl rfl ?_ | refine w_nnl rfl ?_ | refine w_nnlR rfl ?_ | refine w_nul rfl ?_ | refine w_nulR rfl ?_ | refine w_ldc rfl rfl ?_ | refine w_ldc2 rfl rfl ?_ | refine w_put rfl rfl rfl (Nat.le_of_ble_eq_true rfl) (Or.inl rfl) rfl rfl ?_)))
        exact w_lv (fin (Int32.ofInt 1) _ hix (bI_t (P := ¬ (m.above (16 * j + v) = a ∧ m.below (16 * j + v) = b)) (fun z => h4 z.1)).symm) rfl ⟨rfl, rfl, rfl, rfl, rfl, trivial⟩
      · have h4 : m.above (16 * j + v) = a := (lg_cmp_eq _ _).mp (Decidable.not_not.mp h3)
        (repeat (first | refine w_iadd1 rfl ?_ | refine w_isub1 rfl ?_ | refine w_iinc1 rfl rfl ?_ | refine w_s rfl rfl ?_ | refine w_get rfl rfl rfl rfl ?_ | refine w_nnl rfl ?_ | refine w_nnlR rfl ?_ | refine w_nul rfl ?_ | refine w_nulR rfl ?_ | refine w_ldc rfl rfl ?_ | refine w_ldc2 rfl rfl ?_ | refine w_put rfl rfl rfl (Nat.le_of_ble_eq_true rfl) (Or.inl rfl) rfl rfl ?_))
        refine w_la (j := 16 * j + v) rfl rfl hix (by omega) (by decide) ?_
        (repeat (first | refine w_iadd1 rfl ?_ | refine w_isub1 rfl ?_ | refine w_iinc1 rfl rfl ?_ | refine w_s rfl rfl ?_ | refine w_get rfl rfl rfl rfl ?_ | refine w_nnl rfl ?_ | refine w_nnlR rfl ?_ | refine w_nul rfl ?_ | refine w_nulR rfl ?_ | refine w_ldc rfl rfl ?_ | refine w_ldc2 rfl rfl ?_ | refine w_put rfl rfl rfl (Nat.le_of_ble_eq_true rfl) (Or.inl rfl) rfl rfl ?_))
        refine w_if1 rfl (fun h5 => ?_) (fun h5 => ?_)
        · have h6 : m.below (16 * j + v) = b := (lg_cmp_eq _ _).mp h5
          (repeat ((fail_if_success (show ax_wp _ _ _ 111 _ _ _)); (first | refine w_iadd1 rfl ?_ | refine w_isub1 rfl ?_ | refine w_iinc1 rfl rfl ?_ | refine w_s rfl rfl ?_ | refine w_get rfl rfl rfl rfl ?_ | refine w_nnl rfl ?_ | refine w_nnlR rfl ?_ | refine w_nul rfl ?_ | refine w_nulR rfl ?_ | refine w_ldc rfl rfl ?_ | refine w_ldc2 rfl rfl ?_ | refine w_put rfl rfl rfl (Nat.le_of_ble_eq_true rfl) (Or.inl rfl) rfl rfl ?_)))
          exact w_lv (fin (Int32.ofInt 0) _ hix (bI_f (fun z => z ⟨h4, h6⟩)).symm) rfl ⟨rfl, rfl, rfl, rfl, rfl, trivial⟩
        · have h6 : ¬ m.below (16 * j + v) = b := fun z => h5 ((lg_cmp_eq _ _).mpr z)
          (repeat ((fail_if_success (show ax_wp _ _ _ 111 _ _ _)); (first | refine w_iadd1 rfl ?_ | refine w_isub1 rfl ?_ | refine w_iinc1 rfl rfl ?_ | refine w_s rfl rfl ?_ | refine w_get rfl rfl rfl rfl ?_ | refine w_nnl rfl ?_ | refine w_nnlR rfl ?_ | refine w_nul rfl ?_ | refine w_nulR rfl ?_ | refine w_ldc rfl rfl ?_ | refine w_ldc2 rfl rfl ?_ | refine w_put rfl rfl rfl (Nat.le_of_ble_eq_true rfl) (Or.inl rfl) rfl rfl ?_)))
          exact w_lv (fin (Int32.ofInt 1) _ hix (bI_t (P := ¬ (m.above (16 * j + v) = a ∧ m.below (16 * j + v) = b)) (fun z => h6 z.2)).symm) rfl ⟨rfl, rfl, rfl, rfl, rfl, trivial⟩
end MB
end
section
/-! classes (grades) and offers, in the pool -/
abbrev ax_Gr : Type := (Nat → Int32) × (Nat → Int32) × (Nat → Int32) × (Nat) × (Int32)
abbrev ax_Gr.lim (c_ : ax_Gr) : Nat → Int32 := c_.1
abbrev ax_Gr.fr (c_ : ax_Gr) : Nat → Int32 := c_.2.1
abbrev ax_Gr.ce (c_ : ax_Gr) : Nat → Int32 := c_.2.2.1
abbrev ax_Gr.st (c_ : ax_Gr) : Nat := c_.2.2.2.1
abbrev ax_Gr.dy (c_ : ax_Gr) : Int32 := c_.2.2.2.2
abbrev ax_Gr.u_lim (c_ : ax_Gr) (z_ : Nat → Int32) : ax_Gr := (z_, c_.2)
abbrev ax_Gr.u_fr (c_ : ax_Gr) (z_ : Nat → Int32) : ax_Gr := (c_.1, z_, c_.2.2)
abbrev ax_Gr.u_ce (c_ : ax_Gr) (z_ : Nat → Int32) : ax_Gr := (c_.1, c_.2.1, z_, c_.2.2.2)
abbrev ax_Gr.u_st (c_ : ax_Gr) (z_ : Nat) : ax_Gr := (c_.1, c_.2.1, c_.2.2.1, z_, c_.2.2.2.2)
abbrev ax_Gr.u_dy (c_ : ax_Gr) (z_ : Int32) : ax_Gr := (c_.1, c_.2.1, c_.2.2.1, c_.2.2.2.1, z_)
abbrev ax_Of : Type := (Nat) × (Nat → ax_Gr)
abbrev ax_Of.n (c_ : ax_Of) : Nat := c_.1
abbrev ax_Of.g (c_ : ax_Of) : Nat → ax_Gr := c_.2
abbrev ax_Of.u_n (c_ : ax_Of) (z_ : Nat) : ax_Of := (z_, c_.2)
abbrev ax_Of.u_g (c_ : ax_Of) (z_ : Nat → ax_Gr) : ax_Of := (c_.1, z_)
def GradeAt (P : List (Option ax_C)) (i : Nat) (G : ax_Gr) : Prop :=
  ∃ (a b d : Nat) (can : Int32), P[i]? = some (ax_ob 3 [.ref (a + 40), .ref (b + 40), .ref (d + 40), .int (nI G.st), .int G.dy, .int can]) ∧ P[a]? = some (ax_aI 6 G.lim) ∧ P[b]? = some (ax_aI 4 G.fr) ∧ P[d]? = some (ax_aI 4 G.ce)
def OfferAt (P : List (Option ax_C)) (i : Nat) (F : ax_Of) : Prop :=
  ∃ (a : Nat) (gf : Nat → Option Nat), P[i]? = some (ax_ob 4 [.ref (a + 40), .int (nI F.n)]) ∧ P[a]? = some (ax_aG 4 gf) ∧ ∀ k, k < F.n → ∃ j, gf k = some (j + 40) ∧ GradeAt P j (F.g k)
abbrev GradeOk (G : ax_Gr) : Prop := (1 ≤ G.st) ∧ (G.st ≤ 4) ∧ (∀ k, k < 6 → 0 ≤ (G.lim k).toInt ∧ (G.lim k).toInt ≤ 1000000) ∧ (∀ s, s < G.st → 1 ≤ (G.fr s).toInt ∧ (G.fr s).toInt ≤ 1000000) ∧ (∀ s, s < G.st → 1 ≤ (G.ce s).toInt ∧ (G.ce s).toInt ≤ 1000000) ∧ (∀ s, s + 1 < G.st → (G.fr s).toInt < (G.fr (s + 1)).toInt) ∧ (0 ≤ G.dy.toInt ∧ G.dy.toInt ≤ 1000)
theorem GradeOk.s1 {G : ax_Gr} (h_ : GradeOk G) : 1 ≤ G.st := h_.1
theorem GradeOk.s4 {G : ax_Gr} (h_ : GradeOk G) : G.st ≤ 4 := h_.2.1
theorem GradeOk.lm {G : ax_Gr} (h_ : GradeOk G) : ∀ k, k < 6 → 0 ≤ (G.lim k).toInt ∧ (G.lim k).toInt ≤ 1000000 := h_.2.2.1
theorem GradeOk.fm {G : ax_Gr} (h_ : GradeOk G) : ∀ s, s < G.st → 1 ≤ (G.fr s).toInt ∧ (G.fr s).toInt ≤ 1000000 := h_.2.2.2.1
theorem GradeOk.cm {G : ax_Gr} (h_ : GradeOk G) : ∀ s, s < G.st → 1 ≤ (G.ce s).toInt ∧ (G.ce s).toInt ≤ 1000000 := h_.2.2.2.2.1
theorem GradeOk.up {G : ax_Gr} (h_ : GradeOk G) : ∀ s, s + 1 < G.st → (G.fr s).toInt < (G.fr (s + 1)).toInt := h_.2.2.2.2.2.1
theorem GradeOk.dm {G : ax_Gr} (h_ : GradeOk G) : 0 ≤ G.dy.toInt ∧ G.dy.toInt ≤ 1000 := h_.2.2.2.2.2.2
abbrev OfferOk (F : ax_Of) : Prop := (F.n ≤ 4) ∧ (∀ k, k < F.n → GradeOk (F.g k))
theorem OfferOk.n4 {F : ax_Of} (h_ : OfferOk F) : F.n ≤ 4 := h_.1
theorem OfferOk.gs {F : ax_Of} (h_ : OfferOk F) : ∀ k, k < F.n → GradeOk (F.g k) := h_.2
abbrev BoardOk (c : ax_St) : Prop := (c.bn ≤ 60) ∧ (∀ t, t < c.bn → 0 ≤ (c.kinds t).toInt ∧ (c.kinds t).toInt < 6) ∧ (∀ t, t < c.bn → 0 ≤ (c.values t).toInt ∧ (c.values t).toInt ≤ 1000000)
theorem BoardOk.n {c : ax_St} (h_ : BoardOk c) : c.bn ≤ 60 := h_.1
theorem BoardOk.k {c : ax_St} (h_ : BoardOk c) : ∀ t, t < c.bn → 0 ≤ (c.kinds t).toInt ∧ (c.kinds t).toInt < 6 := h_.2.1
theorem BoardOk.v {c : ax_St} (h_ : BoardOk c) : ∀ t, t < c.bn → 0 ≤ (c.values t).toInt ∧ (c.values t).toInt ≤ 1000000 := h_.2.2
theorem GradeAt.more {P P' : List (Option ax_C)} {i : Nat} {G : ax_Gr} (h : GradeAt P i G) (hp : ∀ (j : Nat) (x : Option ax_C), P[j]? = some x → P'[j]? = some x) : GradeAt P' i G := by
  obtain ⟨a, b, d, can, h1, h2, h3, h4⟩ := h
  exact ⟨a, b, d, can, hp _ _ h1, hp _ _ h2, hp _ _ h3, hp _ _ h4⟩
theorem OfferAt.more {P P' : List (Option ax_C)} {i : Nat} {F : ax_Of} (h : OfferAt P i F) (hp : ∀ (j : Nat) (x : Option ax_C), P[j]? = some x → P'[j]? = some x) : OfferAt P' i F := by
  obtain ⟨a, gf, h1, h2, h3⟩ := h
  refine ⟨a, gf, hp _ _ h1, hp _ _ h2, fun k hk => ?_⟩
  obtain ⟨j, e1, e2⟩ := h3 k hk
  exact ⟨j, e1, e2.more hp⟩
/-- by how much a thing is beyond -/
def ax_ex (c : ax_St) (G : ax_Gr) (t : Nat) : Int := if (c.kinds t).toInt < 4 then (G.lim (c.kinds t).toInt.toNat).toInt - (c.values t).toInt else (c.values t).toInt - (G.lim (c.kinds t).toInt.toNat).toInt
theorem ax_ex_b {c : ax_St} {G : ax_Gr} {t : Nat} (hb : BoardOk c) (hg : GradeOk G) (ht : t < c.bn) : -1000000 ≤ ax_ex c G t ∧ ax_ex c G t ≤ 1000000 := by
  have h1 := hb.k t ht
  have h2 := hb.v t ht
  have h3 := hg.lm (c.kinds t).toInt.toNat (by omega)
  unfold ax_ex
  split <;> omega
abbrev ax_made (c : ax_St) (G : ax_Gr) : Prop := ∀ t, t < c.bn → ax_ex c G t ≤ 0
def ax_lst (p : Nat → Bool) : Nat → Nat → Int32
  | 0, _ => -1
  | d + 1, k => if p k = true then nI k else ax_lst p d (k + 1)
def ax_least (c : ax_St) (F : ax_Of) : Int32 := ax_lst (fun k => decide (ax_made c (F.g k))) F.n 0
def ax_jx (p : Nat → Bool) : Nat → Nat
  | 0 => 0
  | s + 1 => if p s = true then s else ax_jx p s
/-- the price -/
def ax_paid (G : ax_Gr) (q : Int64) : Int := if q.toInt < (G.fr 0).toInt then (G.fr 0).toInt else q.toInt
def ax_pri (G : ax_Gr) (q : Int64) : Int := ax_paid G q * (G.ce (ax_jx (fun s => decide ((G.fr s).toInt ≤ ax_paid G q)) G.st)).toInt
section CF
variable {L : Nat} {xs : Nat → Int32} {c : ax_St} {m : ax_Mo} {o : Nat → Int64} {pool : List (Option ax_C)} {u : Nat} {h : ax_H}
theorem hp_at {i : Nat} {x : Option ax_C} (h : pool[i]? = some x) : (ax_hp L xs c m o pool)[i + 40]? = some x := h
theorem r_Gr_excess {g : Nat} {G : ax_Gr} (hg : GradeAt pool g G) (hok : GradeOk G) (k v : Int32) (hk : 0 ≤ k.toInt ∧ k.toInt < 6) (hv : 0 ≤ v.toInt ∧ v.toInt ≤ 1000000) :
    ax_run m_Gr_excess [.ref (g + 40), .int k, .int v] (ax_hp L xs c m o pool, u) (.inl (some (.int (Int32.ofInt (if k.toInt < 4 then (G.lim k.toInt.toNat).toInt - v.toInt else v.toInt - (G.lim k.toInt.toNat).toInt)))), (ax_hp L xs c m o pool, u)) := by
  obtain ⟨a, b, d, can, h1, h2, h3, h4⟩ := hg
  obtain ⟨n, rfl, hn1, hn2⟩ := q_nat (x := k) (by omega)
  have hl := hok.lm n (by omega)
  rw [← hn1]
  simp only [Int.toNat_natCast]
  (refine ax_run_T (ax_T_of M_Gr_excess rfl (Nat.le_of_ble_eq_true rfl) ?_))
  (repeat' (first | refine w_iadd1 rfl ?_ | refine w_isub1 rfl ?_ | refine w_iinc1 rfl rfl ?_ | refine w_s rfl rfl ?_ | refine w_get rfl rfl rfl rfl ?_ | refine w_nnl rfl ?_ | refine w_nnlR rfl ?_ | refine w_nul rfl ?_ | refine w_nulR rfl ?_ | refine w_ldc rfl rfl ?_ | refine w_ldc2 rfl rfl ?_ | refine w_put rfl rfl rfl (Nat.le_of_ble_eq_true rfl) (Or.inl rfl) rfl rfl ?_ | ((first | refine w_if2 rfl (fun _ => ?_) (fun _ => ?_) | refine w_if1 rfl (fun _ => ?_) (fun _ => ?_)) <;> try (exfalso; (((try simp only [c_eq0, c_ne0, c_Llt, c_Lle, c_Lgt, c_Lge, c_Leq, c_Lne] at *); try simp only [ax_cnd, vp_in_iff, Int32.lt_iff_toInt_lt, Int32.le_iff_toInt_le, Int64.lt_iff_toInt_lt, Int64.le_iff_toInt_le, q_eq, q_eqL, q_lg, q_nI, q_add, q_sub, q_mul, q_neg, q_addL, q_subL, q_mulL, q_negL, q_i2l, q_l2i, q_b8, q_b16, q_ofI, q_lit, q_ofNL, q_litL, ne_eq, gt_iff_lt, ge_iff_le] at *) <;> omega); done))))
  refine w_get rfl rfl (hp_at h1) rfl ?_
  (repeat (first | refine w_iadd1 rfl ?_ | refine w_isub1 rfl ?_ | refine w_iinc1 rfl rfl ?_ | refine w_s rfl rfl ?_ | refine w_get rfl rfl rfl rfl ?_ | refine w_nnl rfl ?_ | refine w_nnlR rfl ?_ | refine w_nul rfl ?_ | refine w_nulR rfl ?_ | refine w_ldc rfl rfl ?_ | refine w_ldc2 rfl rfl ?_ | refine w_put rfl rfl rfl (Nat.le_of_ble_eq_true rfl) (Or.inl rfl) rfl rfl ?_))
  refine w_ia rfl (hp_at h2) rfl (by omega) (by decide) ?_
  (repeat (first | refine w_iadd1 rfl ?_ | refine w_isub1 rfl ?_ | refine w_iinc1 rfl rfl ?_ | refine w_s rfl rfl ?_ | refine w_get rfl rfl rfl rfl ?_ | refine w_nnl rfl ?_ | refine w_nnlR rfl ?_ | refine w_nul rfl ?_ | refine w_nulR rfl ?_ | refine w_ldc rfl rfl ?_ | refine w_ldc2 rfl rfl ?_ | refine w_put rfl rfl rfl (Nat.le_of_ble_eq_true rfl) (Or.inl rfl) rfl rfl ?_))
  refine w_if2 rfl (fun h5 => ?_) (fun h5 => ?_)
  · (repeat (first | refine w_iadd1 rfl ?_ | refine w_isub1 rfl ?_ | refine w_iinc1 rfl rfl ?_ | refine w_s rfl rfl ?_ | refine w_get rfl rfl rfl rfl ?_ | refine w_nnl rfl ?_ | refine w_nnlR rfl ?_ | refine w_nul rfl ?_ | refine w_nulR rfl ?_ | refine w_ldc rfl rfl ?_ | refine w_ldc2 rfl rfl ?_ | refine w_put rfl rfl rfl (Nat.le_of_ble_eq_true rfl) (Or.inl rfl) rfl rfl ?_))
    refine w_eqI (y := Int32.ofInt (v.toInt - (G.lim n).toInt)) (by (((try simp only [c_eq0, c_ne0, c_Llt, c_Lle, c_Lgt, c_Lge, c_Leq, c_Lne] at *); try simp only [ax_cnd, vp_in_iff, Int32.lt_iff_toInt_lt, Int32.le_iff_toInt_le, Int64.lt_iff_toInt_lt, Int64.le_iff_toInt_le, q_eq, q_eqL, q_lg, q_nI, q_add, q_sub, q_mul, q_neg, q_addL, q_subL, q_mulL, q_negL, q_i2l, q_l2i, q_b8, q_b16, q_ofI, q_lit, q_ofNL, q_litL, ne_eq, gt_iff_lt, ge_iff_le] at *) <;> omega)) ?_
    (refine w_iret rfl rfl rfl ?_)
    rw [if_neg (by (((try simp only [c_eq0, c_ne0, c_Llt, c_Lle, c_Lgt, c_Lge, c_Leq, c_Lne] at *); try simp only [ax_cnd, vp_in_iff, Int32.lt_iff_toInt_lt, Int32.le_iff_toInt_le, Int64.lt_iff_toInt_lt, Int64.le_iff_toInt_le, q_eq, q_eqL, q_lg, q_nI, q_add, q_sub, q_mul, q_neg, q_addL, q_subL, q_mulL, q_negL, q_i2l, q_l2i, q_b8, q_b16, q_ofI, q_lit, q_ofNL, q_litL, ne_eq, gt_iff_lt, ge_iff_le] at *) <;> omega))]
  · (repeat (first | refine w_iadd1 rfl ?_ | refine w_isub1 rfl ?_ | refine w_iinc1 rfl rfl ?_ | refine w_s rfl rfl ?_ | refine w_get rfl rfl rfl rfl ?_ | refine w_nnl rfl ?_ | refine w_nnlR rfl ?_ | refine w_nul rfl ?_ | refine w_nulR rfl ?_ | refine w_ldc rfl rfl ?_ | refine w_ldc2 rfl rfl ?_ | refine w_put rfl rfl rfl (Nat.le_of_ble_eq_true rfl) (Or.inl rfl) rfl rfl ?_))
    refine w_eqI (y := Int32.ofInt ((G.lim n).toInt - v.toInt)) (by (((try simp only [c_eq0, c_ne0, c_Llt, c_Lle, c_Lgt, c_Lge, c_Leq, c_Lne] at *); try simp only [ax_cnd, vp_in_iff, Int32.lt_iff_toInt_lt, Int32.le_iff_toInt_le, Int64.lt_iff_toInt_lt, Int64.le_iff_toInt_le, q_eq, q_eqL, q_lg, q_nI, q_add, q_sub, q_mul, q_neg, q_addL, q_subL, q_mulL, q_negL, q_i2l, q_l2i, q_b8, q_b16, q_ofI, q_lit, q_ofNL, q_litL, ne_eq, gt_iff_lt, ge_iff_le] at *) <;> omega)) ?_
    (refine w_iret rfl rfl rfl ?_)
    rw [if_pos (by (((try simp only [c_eq0, c_ne0, c_Llt, c_Lle, c_Lgt, c_Lge, c_Leq, c_Lne] at *); try simp only [ax_cnd, vp_in_iff, Int32.lt_iff_toInt_lt, Int32.le_iff_toInt_le, Int64.lt_iff_toInt_lt, Int64.le_iff_toInt_le, q_eq, q_eqL, q_lg, q_nI, q_add, q_sub, q_mul, q_neg, q_addL, q_subL, q_mulL, q_negL, q_i2l, q_l2i, q_b8, q_b16, q_ofI, q_lit, q_ofNL, q_litL, ne_eq, gt_iff_lt, ge_iff_le] at *) <;> omega))]
theorem r_Bd_excess1 {g : Nat} {G : ax_Gr} (hg : GradeAt pool g G) (hok : GradeOk G) (hb : BoardOk c) (t : Nat) (ht : t < c.bn) :
    ax_run m_Bd_excess [.ref 5, .int (nI t), .ref (g + 40)] (ax_hp L xs c m o pool, u) (.inl (some (.int (Int32.ofInt (ax_ex c G t)))), (ax_hp L xs c m o pool, u)) := by
  have hn := hb.n
  (refine ax_run_T (ax_T_of M_Bd_excess rfl (Nat.le_of_ble_eq_true rfl) ?_))
  (repeat (first | refine w_iadd1 rfl ?_ | refine w_isub1 rfl ?_ | refine w_iinc1 rfl rfl ?_ | refine w_s rfl rfl ?_ | refine w_get rfl rfl rfl rfl ?_ | refine w_nnl rfl ?_ | refine w_nnlR rfl ?_ | refine w_nul rfl ?_ | refine w_nulR rfl ?_ | refine w_ldc rfl rfl ?_ | refine w_ldc2 rfl rfl ?_ | refine w_put rfl rfl rfl (Nat.le_of_ble_eq_true rfl) (Or.inl rfl) rfl rfl ?_))
  (refine w_cv rfl rfl rfl rfl (by exact Nat.le_of_ble_eq_true rfl) (by exact Nat.le_of_ble_eq_true rfl) (r_Bd_hasNo (nI t) hb.n) ?_; dsimp only [Option.toList, List.drop, List.cons_append, List.nil_append])
  (repeat' (first | refine w_iadd1 rfl ?_ | refine w_isub1 rfl ?_ | refine w_iinc1 rfl rfl ?_ | refine w_s rfl rfl ?_ | refine w_get rfl rfl rfl rfl ?_ | refine w_nnl rfl ?_ | refine w_nnlR rfl ?_ | refine w_nul rfl ?_ | refine w_nulR rfl ?_ | refine w_ldc rfl rfl ?_ | refine w_ldc2 rfl rfl ?_ | refine w_put rfl rfl rfl (Nat.le_of_ble_eq_true rfl) (Or.inl rfl) rfl rfl ?_ | ((first | refine w_if2 rfl (fun _ => ?_) (fun _ => ?_) | refine w_if1 rfl (fun _ => ?_) (fun _ => ?_)) <;> try (exfalso; (((try simp only [c_eq0, c_ne0, c_Llt, c_Lle, c_Lgt, c_Lge, c_Leq, c_Lne] at *); try simp only [ax_cnd, vp_in_iff, Int32.lt_iff_toInt_lt, Int32.le_iff_toInt_le, Int64.lt_iff_toInt_lt, Int64.le_iff_toInt_le, q_eq, q_eqL, q_lg, q_nI, q_add, q_sub, q_mul, q_neg, q_addL, q_subL, q_mulL, q_negL, q_i2l, q_l2i, q_b8, q_b16, q_ofI, q_lit, q_ofNL, q_litL, ne_eq, gt_iff_lt, ge_iff_le] at *) <;> omega); done))))
  refine w_ia rfl rfl rfl (by omega) (by decide) ?_
  (repeat (first | refine w_iadd1 rfl ?_ | refine w_isub1 rfl ?_ | refine w_iinc1 rfl rfl ?_ | refine w_s rfl rfl ?_ | refine w_get rfl rfl rfl rfl ?_ | refine w_nnl rfl ?_ | refine w_nnlR rfl ?_ | refine w_nul rfl ?_ | refine w_nulR rfl ?_ | refine w_ldc rfl rfl ?_ | refine w_ldc2 rfl rfl ?_ | refine w_put rfl rfl rfl (Nat.le_of_ble_eq_true rfl) (Or.inl rfl) rfl rfl ?_))
  refine w_ia rfl rfl rfl (by omega) (by decide) ?_
  obtain ⟨a, b, d, can, h1, -⟩ := id hg
  refine w_cv rfl rfl rfl (hp_at h1) (Nat.le_of_ble_eq_true rfl) (Nat.le_of_ble_eq_true rfl) (r_Gr_excess hg hok (c.kinds t) (c.values t) (hb.k t ht) (hb.v t ht)) ?_
  (refine w_iret rfl rfl rfl ?_)
  rfl
theorem r_Bd_excess0 {g : Nat} (hb : c.bn ≤ 60) (t : Nat) (ht : c.bn ≤ t) (ht2 : t < 100) :
    ax_run m_Bd_excess [.ref 5, .int (nI t), .ref (g + 40)] (ax_hp L xs c m o pool, u) (.inl (some (.int 0)), (ax_hp L xs c m o pool, u)) := by
  (refine ax_run_T (ax_T_of M_Bd_excess rfl (Nat.le_of_ble_eq_true rfl) ?_))
  (repeat (first | refine w_iadd1 rfl ?_ | refine w_isub1 rfl ?_ | refine w_iinc1 rfl rfl ?_ | refine w_s rfl rfl ?_ | refine w_get rfl rfl rfl rfl ?_ | refine w_nnl rfl ?_ | refine w_nnlR rfl ?_ | refine w_nul rfl ?_ | refine w_nulR rfl ?_ | refine w_ldc rfl rfl ?_ | refine w_ldc2 rfl rfl ?_ | refine w_put rfl rfl rfl (Nat.le_of_ble_eq_true rfl) (Or.inl rfl) rfl rfl ?_))
  (refine w_cv rfl rfl rfl rfl (by exact Nat.le_of_ble_eq_true rfl) (by exact Nat.le_of_ble_eq_true rfl) (r_Bd_hasNo (nI t) hb) ?_; dsimp only [Option.toList, List.drop, List.cons_append, List.nil_append])
  (repeat' (first | refine w_iadd1 rfl ?_ | refine w_isub1 rfl ?_ | refine w_iinc1 rfl rfl ?_ | refine w_s rfl rfl ?_ | refine w_get rfl rfl rfl rfl ?_ | refine w_nnl rfl ?_ | refine w_nnlR rfl ?_ | refine w_nul rfl ?_ | refine w_nulR rfl ?_ | refine w_ldc rfl rfl ?_ | refine w_ldc2 rfl rfl ?_ | refine w_put rfl rfl rfl (Nat.le_of_ble_eq_true rfl) (Or.inl rfl) rfl rfl ?_ | ((first | refine w_if2 rfl (fun _ => ?_) (fun _ => ?_) | refine w_if1 rfl (fun _ => ?_) (fun _ => ?_)) <;> try (exfalso; (((try simp only [c_eq0, c_ne0, c_Llt, c_Lle, c_Lgt, c_Lge, c_Leq, c_Lne] at *); try simp only [ax_cnd, vp_in_iff, Int32.lt_iff_toInt_lt, Int32.le_iff_toInt_le, Int64.lt_iff_toInt_lt, Int64.le_iff_toInt_le, q_eq, q_eqL, q_lg, q_nI, q_add, q_sub, q_mul, q_neg, q_addL, q_subL, q_mulL, q_negL, q_i2l, q_l2i, q_b8, q_b16, q_ofI, q_lit, q_ofNL, q_litL, ne_eq, gt_iff_lt, ge_iff_le] at *) <;> omega); done))))
  (refine w_iret rfl rfl rfl ?_)
  rfl
theorem r_isMadeBy {g : Nat} {G : ax_Gr} (hg : GradeAt pool g G) (hok : GradeOk G) (hb : BoardOk c) :
    ax_run m_Bd_isMadeBy [.ref 5, .ref (g + 40)] (ax_hp L xs c m o pool, u) (.inl (some (.int (bI (ax_made c G)))), (ax_hp L xs c m o pool, u)) := by
  have hn := hb.n
  have lp : ∀ (d k : Nat), k + d = c.bn → (∀ t, t < k → ax_ex c G t ≤ 0) → ax_wp ax_run M_Bd_isMadeBy (fun r' => r' = (.inl (some (.int (bI (ax_made c G)))), (ax_hp L xs c m o pool, u))) 2 [(0, .ref 5), (1, .ref (g + 40)), (2, .int (nI k))] [] (ax_hp L xs c m o pool, u) := by
    intro d
    induction d with
    | zero =>
      intro k hk hall
      (repeat' (first | refine w_iadd1 rfl ?_ | refine w_isub1 rfl ?_ | refine w_iinc1 rfl rfl ?_ | refine w_s rfl rfl ?_ | refine w_get rfl rfl rfl rfl ?_ | refine w_nnl rfl ?_ | refine w_nnlR rfl ?_ | refine w_nul rfl ?_ | refine w_nulR rfl ?_ | refine w_ldc rfl rfl ?_ | refine w_ldc2 rfl rfl ?_ | refine w_put rfl rfl rfl (Nat.le_of_ble_eq_true rfl) (Or.inl rfl) rfl rfl ?_ | ((first | refine w_if2 rfl (fun _ => ?_) (fun _ => ?_) | refine w_if1 rfl (fun _ => ?_) (fun _ => ?_)) <;> try (exfalso; (((try simp only [c_eq0, c_ne0, c_Llt, c_Lle, c_Lgt, c_Lge, c_Leq, c_Lne] at *); try simp only [ax_cnd, vp_in_iff, Int32.lt_iff_toInt_lt, Int32.le_iff_toInt_le, Int64.lt_iff_toInt_lt, Int64.le_iff_toInt_le, q_eq, q_eqL, q_lg, q_nI, q_add, q_sub, q_mul, q_neg, q_addL, q_subL, q_mulL, q_negL, q_i2l, q_l2i, q_b8, q_b16, q_ofI, q_lit, q_ofNL, q_litL, ne_eq, gt_iff_lt, ge_iff_le] at *) <;> omega); done))))
      (refine w_iret rfl rfl rfl ?_)
      exact bT (fun t ht => hall t (by omega))
    | succ d ih =>
      intro k hk hall
      (repeat' (first | refine w_iadd1 rfl ?_ | refine w_isub1 rfl ?_ | refine w_iinc1 rfl rfl ?_ | refine w_s rfl rfl ?_ | refine w_get rfl rfl rfl rfl ?_ | refine w_nnl rfl ?_ | refine w_nnlR rfl ?_ | refine w_nul rfl ?_ | refine w_nulR rfl ?_ | refine w_ldc rfl rfl ?_ | refine w_ldc2 rfl rfl ?_ | refine w_put rfl rfl rfl (Nat.le_of_ble_eq_true rfl) (Or.inl rfl) rfl rfl ?_ | ((first | refine w_if2 rfl (fun _ => ?_) (fun _ => ?_) | refine w_if1 rfl (fun _ => ?_) (fun _ => ?_)) <;> try (exfalso; (((try simp only [c_eq0, c_ne0, c_Llt, c_Lle, c_Lgt, c_Lge, c_Leq, c_Lne] at *); try simp only [ax_cnd, vp_in_iff, Int32.lt_iff_toInt_lt, Int32.le_iff_toInt_le, Int64.lt_iff_toInt_lt, Int64.le_iff_toInt_le, q_eq, q_eqL, q_lg, q_nI, q_add, q_sub, q_mul, q_neg, q_addL, q_subL, q_mulL, q_negL, q_i2l, q_l2i, q_b8, q_b16, q_ofI, q_lit, q_ofNL, q_litL, ne_eq, gt_iff_lt, ge_iff_le] at *) <;> omega); done))))
      (refine w_cv rfl rfl rfl rfl (by exact Nat.le_of_ble_eq_true rfl) (by exact Nat.le_of_ble_eq_true rfl) (r_Bd_excess1 hg hok hb k (by omega)) ?_; dsimp only [Option.toList, List.drop, List.cons_append, List.nil_append])
      have hx := ax_ex_b hb hok (t := k) (by omega)
      refine w_if1 rfl (fun h5 => ?_) (fun h5 => ?_)
      · (repeat ((fail_if_success (show ax_wp _ _ _ 2 _ _ _)); (first | refine w_iadd1 rfl ?_ | refine w_isub1 rfl ?_ | refine w_iinc1 rfl rfl ?_ | refine w_s rfl rfl ?_ | refine w_get rfl rfl rfl rfl ?_ | refine w_nnl rfl ?_ | refine w_nnlR rfl ?_ | refine w_nul rfl ?_ | refine w_nulR rfl ?_ | refine w_ldc rfl rfl ?_ | refine w_ldc2 rfl rfl ?_ | refine w_put rfl rfl rfl (Nat.le_of_ble_eq_true rfl) (Or.inl rfl) rfl rfl ?_)))
        refine w_lv (ih (k + 1) (by omega) (fun t ht => ?_)) rfl ⟨rfl, rfl, rfl, trivial⟩
        by_cases hk2 : t = k
        · subst hk2
          have h6 : (Int32.ofInt (ax_ex c G t)).toInt ≤ 0 := by
            have := Int32.le_iff_toInt_le.mp h5
            exact this
          rw [q_ofI] at h6
          omega
        · exact hall t (by omega)
      · (repeat (first | refine w_iadd1 rfl ?_ | refine w_isub1 rfl ?_ | refine w_iinc1 rfl rfl ?_ | refine w_s rfl rfl ?_ | refine w_get rfl rfl rfl rfl ?_ | refine w_nnl rfl ?_ | refine w_nnlR rfl ?_ | refine w_nul rfl ?_ | refine w_nulR rfl ?_ | refine w_ldc rfl rfl ?_ | refine w_ldc2 rfl rfl ?_ | refine w_put rfl rfl rfl (Nat.le_of_ble_eq_true rfl) (Or.inl rfl) rfl rfl ?_))
        (refine w_iret rfl rfl rfl ?_)
        refine bF (fun hm => ?_)
        have h6 := hm k (by omega)
        apply h5
        show _ ≤ (0 : Int32)
        rw [Int32.le_iff_toInt_le, q_ofI]
        show _ ≤ (0 : Int)
        omega
  (refine ax_run_T (ax_T_of M_Bd_isMadeBy rfl (Nat.le_of_ble_eq_true rfl) ?_))
  (repeat ((fail_if_success (show ax_wp _ _ _ 2 _ _ _)); (first | refine w_iadd1 rfl ?_ | refine w_isub1 rfl ?_ | refine w_iinc1 rfl rfl ?_ | refine w_s rfl rfl ?_ | refine w_get rfl rfl rfl rfl ?_ | refine w_nnl rfl ?_ | refine w_nnlR rfl ?_ | refine w_nul rfl ?_ | refine w_nulR rfl ?_ | refine w_ldc rfl rfl ?_ | refine w_ldc2 rfl rfl ?_ | refine w_put rfl rfl rfl (Nat.le_of_ble_eq_true rfl) (Or.inl rfl) rfl rfl ?_)))
  exact w_lv (lp c.bn 0 (by omega) (fun t ht => absurd ht (by omega))) rfl ⟨rfl, rfl, rfl, trivial⟩
theorem r_gradeAt0 {f : Nat} {F : ax_Of} (hf : OfferAt pool f F) (hok : OfferOk F) (k : Int32) (hk : ¬ (0 ≤ k.toInt ∧ k.toInt < F.n)) :
    ax_run m_Of_gradeAt [.ref (f + 40), .int k] (ax_hp L xs c m o pool, u) (.inl (some .null), (ax_hp L xs c m o pool, u)) := by
  have hn := hok.n4
  obtain ⟨a, gf, h1, h2, h3⟩ := hf
  (refine ax_run_T (ax_T_of M_Of_gradeAt rfl (Nat.le_of_ble_eq_true rfl) ?_))
  (repeat' (first | refine w_iadd1 rfl ?_ | refine w_isub1 rfl ?_ | refine w_iinc1 rfl rfl ?_ | refine w_s rfl rfl ?_ | refine w_get rfl rfl rfl rfl ?_ | refine w_nnl rfl ?_ | refine w_nnlR rfl ?_ | refine w_nul rfl ?_ | refine w_nulR rfl ?_ | refine w_ldc rfl rfl ?_ | refine w_ldc2 rfl rfl ?_ | refine w_put rfl rfl rfl (Nat.le_of_ble_eq_true rfl) (Or.inl rfl) rfl rfl ?_ | ((first | refine w_if2 rfl (fun _ => ?_) (fun _ => ?_) | refine w_if1 rfl (fun _ => ?_) (fun _ => ?_)) <;> try (exfalso; (((try simp only [c_eq0, c_ne0, c_Llt, c_Lle, c_Lgt, c_Lge, c_Leq, c_Lne] at *); try simp only [ax_cnd, vp_in_iff, Int32.lt_iff_toInt_lt, Int32.le_iff_toInt_le, Int64.lt_iff_toInt_lt, Int64.le_iff_toInt_le, q_eq, q_eqL, q_lg, q_nI, q_add, q_sub, q_mul, q_neg, q_addL, q_subL, q_mulL, q_negL, q_i2l, q_l2i, q_b8, q_b16, q_ofI, q_lit, q_ofNL, q_litL, ne_eq, gt_iff_lt, ge_iff_le] at *) <;> omega); done))))
  · refine w_aret rfl rfl rfl rfl
  · refine w_get rfl rfl (hp_at h1) rfl ?_
    (repeat' (first | refine w_iadd1 rfl ?_ | refine w_isub1 rfl ?_ | refine w_iinc1 rfl rfl ?_ | refine w_s rfl rfl ?_ | refine w_get rfl rfl rfl rfl ?_ | refine w_nnl rfl ?_ | refine w_nnlR rfl ?_ | refine w_nul rfl ?_ | refine w_nulR rfl ?_ | refine w_ldc rfl rfl ?_ | refine w_ldc2 rfl rfl ?_ | refine w_put rfl rfl rfl (Nat.le_of_ble_eq_true rfl) (Or.inl rfl) rfl rfl ?_ | ((first | refine w_if2 rfl (fun _ => ?_) (fun _ => ?_) | refine w_if1 rfl (fun _ => ?_) (fun _ => ?_)) <;> try (exfalso; (((try simp only [c_eq0, c_ne0, c_Llt, c_Lle, c_Lgt, c_Lge, c_Leq, c_Lne] at *); try simp only [ax_cnd, vp_in_iff, Int32.lt_iff_toInt_lt, Int32.le_iff_toInt_le, Int64.lt_iff_toInt_lt, Int64.le_iff_toInt_le, q_eq, q_eqL, q_lg, q_nI, q_add, q_sub, q_mul, q_neg, q_addL, q_subL, q_mulL, q_negL, q_i2l, q_l2i, q_b8, q_b16, q_ofI, q_lit, q_ofNL, q_litL, ne_eq, gt_iff_lt, ge_iff_le] at *) <;> omega); done))))
    refine w_aret rfl rfl rfl rfl
theorem r_gradeAt1 {f : Nat} {F : ax_Of} (hf : OfferAt pool f F) (hok : OfferOk F) (k : Nat) (hk : k < F.n) :
    ∃ j, GradeAt pool j (F.g k) ∧ ax_run m_Of_gradeAt [.ref (f + 40), .int (nI k)] (ax_hp L xs c m o pool, u) (.inl (some (.ref (j + 40))), (ax_hp L xs c m o pool, u)) := by
  have hn := hok.n4
  obtain ⟨a, gf, h1, h2, h3⟩ := hf
  obtain ⟨j, e1, e2⟩ := h3 k hk
  refine ⟨j, e2, ?_⟩
  (refine ax_run_T (ax_T_of M_Of_gradeAt rfl (Nat.le_of_ble_eq_true rfl) ?_))
  (repeat' (first | refine w_iadd1 rfl ?_ | refine w_isub1 rfl ?_ | refine w_iinc1 rfl rfl ?_ | refine w_s rfl rfl ?_ | refine w_get rfl rfl rfl rfl ?_ | refine w_nnl rfl ?_ | refine w_nnlR rfl ?_ | refine w_nul rfl ?_ | refine w_nulR rfl ?_ | refine w_ldc rfl rfl ?_ | refine w_ldc2 rfl rfl ?_ | refine w_put rfl rfl rfl (Nat.le_of_ble_eq_true rfl) (Or.inl rfl) rfl rfl ?_ | ((first | refine w_if2 rfl (fun _ => ?_) (fun _ => ?_) | refine w_if1 rfl (fun _ => ?_) (fun _ => ?_)) <;> try (exfalso; (((try simp only [c_eq0, c_ne0, c_Llt, c_Lle, c_Lgt, c_Lge, c_Leq, c_Lne] at *); try simp only [ax_cnd, vp_in_iff, Int32.lt_iff_toInt_lt, Int32.le_iff_toInt_le, Int64.lt_iff_toInt_lt, Int64.le_iff_toInt_le, q_eq, q_eqL, q_lg, q_nI, q_add, q_sub, q_mul, q_neg, q_addL, q_subL, q_mulL, q_negL, q_i2l, q_l2i, q_b8, q_b16, q_ofI, q_lit, q_ofNL, q_litL, ne_eq, gt_iff_lt, ge_iff_le] at *) <;> omega); done))))
  refine w_get rfl rfl (hp_at h1) rfl ?_
  (repeat' (first | refine w_iadd1 rfl ?_ | refine w_isub1 rfl ?_ | refine w_iinc1 rfl rfl ?_ | refine w_s rfl rfl ?_ | refine w_get rfl rfl rfl rfl ?_ | refine w_nnl rfl ?_ | refine w_nnlR rfl ?_ | refine w_nul rfl ?_ | refine w_nulR rfl ?_ | refine w_ldc rfl rfl ?_ | refine w_ldc2 rfl rfl ?_ | refine w_put rfl rfl rfl (Nat.le_of_ble_eq_true rfl) (Or.inl rfl) rfl rfl ?_ | ((first | refine w_if2 rfl (fun _ => ?_) (fun _ => ?_) | refine w_if1 rfl (fun _ => ?_) (fun _ => ?_)) <;> try (exfalso; (((try simp only [c_eq0, c_ne0, c_Llt, c_Lle, c_Lgt, c_Lge, c_Leq, c_Lne] at *); try simp only [ax_cnd, vp_in_iff, Int32.lt_iff_toInt_lt, Int32.le_iff_toInt_le, Int64.lt_iff_toInt_lt, Int64.le_iff_toInt_le, q_eq, q_eqL, q_lg, q_nI, q_add, q_sub, q_mul, q_neg, q_addL, q_subL, q_mulL, q_negL, q_i2l, q_l2i, q_b8, q_b16, q_ofI, q_lit, q_ofNL, q_litL, ne_eq, gt_iff_lt, ge_iff_le] at *) <;> omega); done))))
  refine w_get rfl rfl (hp_at h1) rfl ?_
  (repeat (first | refine w_iadd1 rfl ?_ | refine w_isub1 rfl ?_ | refine w_iinc1 rfl rfl ?_ | refine w_s rfl rfl ?_ | refine w_get rfl rfl rfl rfl ?_ | refine w_nnl rfl ?_ | refine w_nnlR rfl ?_ | refine w_nul rfl ?_ | refine w_nulR rfl ?_ | refine w_ldc rfl rfl ?_ | refine w_ldc2 rfl rfl ?_ | refine w_put rfl rfl rfl (Nat.le_of_ble_eq_true rfl) (Or.inl rfl) rfl rfl ?_))
  refine w_aa rfl (hp_at h2) (Or.inr rfl) rfl (by omega) (by decide) ?_
  rw [e1]
  refine w_aret rfl rfl rfl rfl
theorem r_leastFor {f : Nat} {F : ax_Of} (hf : OfferAt pool f F) (hok : OfferOk F) (hb : BoardOk c) :
    ax_run m_Of_leastFor [.ref (f + 40), .ref 5] (ax_hp L xs c m o pool, u) (.inl (some (.int (ax_least c F))), (ax_hp L xs c m o pool, u)) := by
  have hn := hok.n4
  have lp : ∀ (d k : Nat), k + d = F.n → ax_wp ax_run M_Of_leastFor (fun r' => r' = (.inl (some (.int (ax_lst (fun k => decide (ax_made c (F.g k))) d k))), (ax_hp L xs c m o pool, u))) 2 [(0, .ref (f + 40)), (1, .ref 5), (2, .int (nI k))] [] (ax_hp L xs c m o pool, u) := by
    intro d
    induction d with
    | zero =>
      intro k hk
      obtain ⟨a, gf, h1, h2, h3⟩ := id hf
      (repeat (first | refine w_iadd1 rfl ?_ | refine w_isub1 rfl ?_ | refine w_iinc1 rfl rfl ?_ | refine w_s rfl rfl ?_ | refine w_get rfl rfl rfl rfl ?_ | refine w_nnl rfl ?_ | refine w_nnlR rfl ?_ | refine w_nul rfl ?_ | refine w_nulR rfl ?_ | refine w_ldc rfl rfl ?_ | refine w_ldc2 rfl rfl ?_ | refine w_put rfl rfl rfl (Nat.le_of_ble_eq_true rfl) (Or.inl rfl) rfl rfl ?_))
      refine w_get rfl rfl (hp_at h1) rfl ?_
      (repeat' (first | refine w_iadd1 rfl ?_ | refine w_isub1 rfl ?_ | refine w_iinc1 rfl rfl ?_ | refine w_s rfl rfl ?_ | refine w_get rfl rfl rfl rfl ?_ | refine w_nnl rfl ?_ | refine w_nnlR rfl ?_ | refine w_nul rfl ?_ | refine w_nulR rfl ?_ | refine w_ldc rfl rfl ?_ | refine w_ldc2 rfl rfl ?_ | refine w_put rfl rfl rfl (Nat.le_of_ble_eq_true rfl) (Or.inl rfl) rfl rfl ?_ | ((first | refine w_if2 rfl (fun _ => ?_) (fun _ => ?_) | refine w_if1 rfl (fun _ => ?_) (fun _ => ?_)) <;> try (exfalso; (((try simp only [c_eq0, c_ne0, c_Llt, c_Lle, c_Lgt, c_Lge, c_Leq, c_Lne] at *); try simp only [ax_cnd, vp_in_iff, Int32.lt_iff_toInt_lt, Int32.le_iff_toInt_le, Int64.lt_iff_toInt_lt, Int64.le_iff_toInt_le, q_eq, q_eqL, q_lg, q_nI, q_add, q_sub, q_mul, q_neg, q_addL, q_subL, q_mulL, q_negL, q_i2l, q_l2i, q_b8, q_b16, q_ofI, q_lit, q_ofNL, q_litL, ne_eq, gt_iff_lt, ge_iff_le] at *) <;> omega); done))))
      (refine w_iret rfl rfl rfl ?_)
      rfl
    | succ d ih =>
      intro k hk
      obtain ⟨a, gf, h1, h2, h3⟩ := id hf
      (repeat (first | refine w_iadd1 rfl ?_ | refine w_isub1 rfl ?_ | refine w_iinc1 rfl rfl ?_ | refine w_s rfl rfl ?_ | refine w_get rfl rfl rfl rfl ?_ | refine w_nnl rfl ?_ | refine w_nnlR rfl ?_ | refine w_nul rfl ?_ | refine w_nulR rfl ?_ | refine w_ldc rfl rfl ?_ | refine w_ldc2 rfl rfl ?_ | refine w_put rfl rfl rfl (Nat.le_of_ble_eq_true rfl) (Or.inl rfl) rfl rfl ?_))
      refine w_get rfl rfl (hp_at h1) rfl ?_
      (repeat' (first | refine w_iadd1 rfl ?_ | refine w_isub1 rfl ?_ | refine w_iinc1 rfl rfl ?_ | refine w_s rfl rfl ?_ | refine w_get rfl rfl rfl rfl ?_ | refine w_nnl rfl ?_ | refine w_nnlR rfl ?_ | refine w_nul rfl ?_ | refine w_nulR rfl ?_ | refine w_ldc rfl rfl ?_ | refine w_ldc2 rfl rfl ?_ | refine w_put rfl rfl rfl (Nat.le_of_ble_eq_true rfl) (Or.inl rfl) rfl rfl ?_ | ((first | refine w_if2 rfl (fun _ => ?_) (fun _ => ?_) | refine w_if1 rfl (fun _ => ?_) (fun _ => ?_)) <;> try (exfalso; (((try simp only [c_eq0, c_ne0, c_Llt, c_Lle, c_Lgt, c_Lge, c_Leq, c_Lne] at *); try simp only [ax_cnd, vp_in_iff, Int32.lt_iff_toInt_lt, Int32.le_iff_toInt_le, Int64.lt_iff_toInt_lt, Int64.le_iff_toInt_le, q_eq, q_eqL, q_lg, q_nI, q_add, q_sub, q_mul, q_neg, q_addL, q_subL, q_mulL, q_negL, q_i2l, q_l2i, q_b8, q_b16, q_ofI, q_lit, q_ofNL, q_litL, ne_eq, gt_iff_lt, ge_iff_le] at *) <;> omega); done))))
      obtain ⟨j, hj, hr⟩ := r_gradeAt1 (L := L) (xs := xs) (c := c) (m := m) (o := o) (u := u) hf hok k (by omega)
      refine w_cv rfl rfl rfl (hp_at h1) (Nat.le_of_ble_eq_true rfl) (Nat.le_of_ble_eq_true rfl) hr ?_
      dsimp only [Option.toList, List.drop, List.cons_append, List.nil_append]
      (repeat (first | refine w_iadd1 rfl ?_ | refine w_isub1 rfl ?_ | refine w_iinc1 rfl rfl ?_ | refine w_s rfl rfl ?_ | refine w_get rfl rfl rfl rfl ?_ | refine w_nnl rfl ?_ | refine w_nnlR rfl ?_ | refine w_nul rfl ?_ | refine w_nulR rfl ?_ | refine w_ldc rfl rfl ?_ | refine w_ldc2 rfl rfl ?_ | refine w_put rfl rfl rfl (Nat.le_of_ble_eq_true rfl) (Or.inl rfl) rfl rfl ?_))
      (refine w_cv rfl rfl rfl rfl (by exact Nat.le_of_ble_eq_true rfl) (by exact Nat.le_of_ble_eq_true rfl) (r_isMadeBy hj (hok.gs k (by omega)) hb) ?_; dsimp only [Option.toList, List.drop, List.cons_append, List.nil_append])
      refine w_if1 rfl (fun h5 => ?_) (fun h5 => ?_)
      · have h6 := c_eq0.mp h5
        (repeat ((fail_if_success (show ax_wp _ _ _ 2 _ _ _)); (first | refine w_iadd1 rfl ?_ | refine w_isub1 rfl ?_ | refine w_iinc1 rfl rfl ?_ | refine w_s rfl rfl ?_ | refine w_get rfl rfl rfl rfl ?_ | refine w_nnl rfl ?_ | refine w_nnlR rfl ?_ | refine w_nul rfl ?_ | refine w_nulR rfl ?_ | refine w_ldc rfl rfl ?_ | refine w_ldc2 rfl rfl ?_ | refine w_put rfl rfl rfl (Nat.le_of_ble_eq_true rfl) (Or.inl rfl) rfl rfl ?_)))
        refine w_lv (l1 := [(0, .ref (f + 40)), (1, .ref 5), (2, .int (nI (k + 1)))]) (w_post (ih (k + 1) (by omega)) (fun r hr => ?_)) rfl ⟨rfl, rfl, rfl, trivial⟩
        rw [hr]
        simp only [ax_lst, h6, decide_false, Bool.false_eq_true, if_false]
      · have h6 : ax_made c (F.g k) := Decidable.not_not.mp (fun z => h5 (c_eq0.mpr z))
        (repeat (first | refine w_iadd1 rfl ?_ | refine w_isub1 rfl ?_ | refine w_iinc1 rfl rfl ?_ | refine w_s rfl rfl ?_ | refine w_get rfl rfl rfl rfl ?_ | refine w_nnl rfl ?_ | refine w_nnlR rfl ?_ | refine w_nul rfl ?_ | refine w_nulR rfl ?_ | refine w_ldc rfl rfl ?_ | refine w_ldc2 rfl rfl ?_ | refine w_put rfl rfl rfl (Nat.le_of_ble_eq_true rfl) (Or.inl rfl) rfl rfl ?_))
        (refine w_iret rfl rfl rfl ?_)
        show _ = (Sum.inl (some (Value.int (if decide (ax_made c (F.g k)) = true then nI k else _))), _)
        rw [if_pos (decide_eq_true h6)]
  (refine ax_run_T (ax_T_of M_Of_leastFor rfl (Nat.le_of_ble_eq_true rfl) ?_))
  (repeat ((fail_if_success (show ax_wp _ _ _ 2 _ _ _)); (first | refine w_iadd1 rfl ?_ | refine w_isub1 rfl ?_ | refine w_iinc1 rfl rfl ?_ | refine w_s rfl rfl ?_ | refine w_get rfl rfl rfl rfl ?_ | refine w_nnl rfl ?_ | refine w_nnlR rfl ?_ | refine w_nul rfl ?_ | refine w_nulR rfl ?_ | refine w_ldc rfl rfl ?_ | refine w_ldc2 rfl rfl ?_ | refine w_put rfl rfl rfl (Nat.le_of_ble_eq_true rfl) (Or.inl rfl) rfl rfl ?_)))
  exact w_lv (lp F.n 0 (by omega)) rfl ⟨rfl, rfl, rfl, trivial⟩
end CF
end
section
section CG
variable {L : Nat} {xs : Nat → Int32} {c : ax_St} {m : ax_Mo} {o : Nat → Int64} {pool : List (Option ax_C)} {u : Nat} {h : ax_H}
theorem r_maxL (a b : Int64) : ax_run m_Ma_maxL [.long a, .long b] h (.inl (some (.long (if a.toInt < b.toInt then b else a))), h) := by
  (refine ax_run_T (ax_T_of M_Ma_maxL rfl (Nat.le_of_ble_eq_true rfl) ?_))
  (repeat (first | refine w_iadd1 rfl ?_ | refine w_isub1 rfl ?_ | refine w_iinc1 rfl rfl ?_ | refine w_s rfl rfl ?_ | refine w_get rfl rfl rfl rfl ?_ | refine w_nnl rfl ?_ | refine w_nnlR rfl ?_ | refine w_nul rfl ?_ | refine w_nulR rfl ?_ | refine w_ldc rfl rfl ?_ | refine w_ldc2 rfl rfl ?_ | refine w_put rfl rfl rfl (Nat.le_of_ble_eq_true rfl) (Or.inl rfl) rfl rfl ?_))
  refine w_if1 rfl (fun h1 => ?_) (fun h1 => ?_)
  · rw [if_pos (c_Llt.mp h1)]
    (repeat (first | refine w_iadd1 rfl ?_ | refine w_isub1 rfl ?_ | refine w_iinc1 rfl rfl ?_ | refine w_s rfl rfl ?_ | refine w_get rfl rfl rfl rfl ?_ | refine w_nnl rfl ?_ | refine w_nnlR rfl ?_ | refine w_nul rfl ?_ | refine w_nulR rfl ?_ | refine w_ldc rfl rfl ?_ | refine w_ldc2 rfl rfl ?_ | refine w_put rfl rfl rfl (Nat.le_of_ble_eq_true rfl) (Or.inl rfl) rfl rfl ?_))
    exact w_lret rfl rfl rfl
  · rw [if_neg (fun z => h1 (c_Llt.mpr z))]
    (repeat (first | refine w_iadd1 rfl ?_ | refine w_isub1 rfl ?_ | refine w_iinc1 rfl rfl ?_ | refine w_s rfl rfl ?_ | refine w_get rfl rfl rfl rfl ?_ | refine w_nnl rfl ?_ | refine w_nnlR rfl ?_ | refine w_nul rfl ?_ | refine w_nulR rfl ?_ | refine w_ldc rfl rfl ?_ | refine w_ldc2 rfl rfl ?_ | refine w_put rfl rfl rfl (Nat.le_of_ble_eq_true rfl) (Or.inl rfl) rfl rfl ?_))
    exact w_lret rfl rfl rfl
theorem q_ofIL {z : Int} (h1 : -9223372036854775808 ≤ z) (h2 : z < 9223372036854775808) : (Int64.ofInt z).toInt = z := by
  rw [Int64.toInt_ofInt, show Int64.size = 2 ^ 64 from rfl, q_bm64]
  omega
theorem q_toL {x : Int64} {z : Int} (h : x.toInt = z) : x = Int64.ofInt z := by
  rw [q_eqL, h, q_ofIL] <;> have := q_bL x <;> omega
theorem r_priceOf {g : Nat} {G : ax_Gr} (hg : GradeAt pool g G) (hok : GradeOk G) (q : Int64) (hq : 1 ≤ q.toInt ∧ q.toInt ≤ 1000000) :
    ax_run m_Gr_priceOf [.ref (g + 40), .long q] (ax_hp L xs c m o pool, u) (.inl (some (.long (Int64.ofInt (ax_pri G q)))), (ax_hp L xs c m o pool, u)) := by
  have hs1 := hok.s1
  have hs4 := hok.s4
  obtain ⟨a, b, d, can, h1, h2, h3, h4⟩ := hg
  have hf0 := hok.fm 0 (by omega)
  have hpb : 1 ≤ ax_paid G q ∧ ax_paid G q ≤ 1000000 ∧ (G.fr 0).toInt ≤ ax_paid G q := by unfold ax_paid; split <;> omega
  have lp : ∀ (e k : Nat), 1 ≤ k → k + e = G.st → ax_wp ax_run M_Gr_priceOf (fun r' => r' = (.inl (some (.long (Int64.ofInt (ax_pri G q)))), (ax_hp L xs c m o pool, u))) 24 [(0, .ref (g + 40)), (3, .long (Int64.ofInt (ax_paid G q))), (5, .long (G.ce (ax_jx (fun s => decide ((G.fr s).toInt ≤ ax_paid G q)) k)).toInt64), (7, .int (nI k))] [] (ax_hp L xs c m o pool, u) := by
    intro e
    induction e with
    | zero =>
      intro k hk0 hk
      have : k = G.st := by omega
      subst this
      (repeat (first | refine w_iadd1 rfl ?_ | refine w_isub1 rfl ?_ | refine w_iinc1 rfl rfl ?_ | refine w_s rfl rfl ?_ | refine w_get rfl rfl rfl rfl ?_ | refine w_nnl rfl ?_ | refine w_nnlR rfl ?_ | refine w_nul rfl ?_ | refine w_nulR rfl ?_ | refine w_ldc rfl rfl ?_ | refine w_ldc2 rfl rfl ?_ | refine w_put rfl rfl rfl (Nat.le_of_ble_eq_true rfl) (Or.inl rfl) rfl rfl ?_))
      refine w_get rfl rfl (hp_at h1) rfl ?_
      (repeat' (first | refine w_iadd1 rfl ?_ | refine w_isub1 rfl ?_ | refine w_iinc1 rfl rfl ?_ | refine w_s rfl rfl ?_ | refine w_get rfl rfl rfl rfl ?_ | refine w_nnl rfl ?_ | refine w_nnlR rfl ?_ | refine w_nul rfl ?_ | refine w_nulR rfl ?_ | refine w_ldc rfl rfl ?_ | refine w_ldc2 rfl rfl ?_ | refine w_put rfl rfl rfl (Nat.le_of_ble_eq_true rfl) (Or.inl rfl) rfl rfl ?_ | ((first | refine w_if2 rfl (fun _ => ?_) (fun _ => ?_) | refine w_if1 rfl (fun _ => ?_) (fun _ => ?_)) <;> try (exfalso; (((try simp only [c_eq0, c_ne0, c_Llt, c_Lle, c_Lgt, c_Lge, c_Leq, c_Lne] at *); try simp only [ax_cnd, vp_in_iff, Int32.lt_iff_toInt_lt, Int32.le_iff_toInt_le, Int64.lt_iff_toInt_lt, Int64.le_iff_toInt_le, q_eq, q_eqL, q_lg, q_nI, q_add, q_sub, q_mul, q_neg, q_addL, q_subL, q_mulL, q_negL, q_i2l, q_l2i, q_b8, q_b16, q_ofI, q_lit, q_ofNL, q_litL, ne_eq, gt_iff_lt, ge_iff_le] at *) <;> omega); done))))
      refine w_lret rfl rfl ?_
      congr 4
      have hj : ax_jx (fun s => decide ((G.fr s).toInt ≤ ax_paid G q)) G.st < G.st := by
        have : ∀ n, 1 ≤ n → ax_jx (fun s => decide ((G.fr s).toInt ≤ ax_paid G q)) n < n := by
          intro n
          induction n with
          | zero => intro z; omega
          | succ n ihn =>
            intro _
            unfold ax_jx
            split
            · omega
            · by_cases hz : 1 ≤ n
              · have := ihn hz; omega
              · have : n = 0 := by omega
                subst this
                exact Nat.succ_pos 0
        exact this _ hs1
      have hc := hok.cm _ hj
      generalize hce : G.ce (ax_jx (fun s => decide ((G.fr s).toInt ≤ ax_paid G q)) G.st) = ce at hc
      apply q_toL
      rw [q_mulL, q_ofIL (by omega) (by omega), q_i2l]
      unfold ax_pri
      rw [hce]
      have hm1 : ax_paid G q * ce.toInt ≤ 1000000 * 1000000 := Int.mul_le_mul (by omega) (by omega) (by omega) (by omega)
      have hm2 : 0 ≤ ax_paid G q * ce.toInt := Int.mul_nonneg (by omega) (by omega)
      omega
    | succ e ih =>
      intro k hk0 hk
      have hfk := hok.fm k (by omega)
      (repeat (first | refine w_iadd1 rfl ?_ | refine w_isub1 rfl ?_ | refine w_iinc1 rfl rfl ?_ | refine w_s rfl rfl ?_ | refine w_get rfl rfl rfl rfl ?_ | refine w_nnl rfl ?_ | refine w_nnlR rfl ?_ | refine w_nul rfl ?_ | refine w_nulR rfl ?_ | refine w_ldc rfl rfl ?_ | refine w_ldc2 rfl rfl ?_ | refine w_put rfl rfl rfl (Nat.le_of_ble_eq_true rfl) (Or.inl rfl) rfl rfl ?_))
      refine w_get rfl rfl (hp_at h1) rfl ?_
      (repeat' (first | refine w_iadd1 rfl ?_ | refine w_isub1 rfl ?_ | refine w_iinc1 rfl rfl ?_ | refine w_s rfl rfl ?_ | refine w_get rfl rfl rfl rfl ?_ | refine w_nnl rfl ?_ | refine w_nnlR rfl ?_ | refine w_nul rfl ?_ | refine w_nulR rfl ?_ | refine w_ldc rfl rfl ?_ | refine w_ldc2 rfl rfl ?_ | refine w_put rfl rfl rfl (Nat.le_of_ble_eq_true rfl) (Or.inl rfl) rfl rfl ?_ | ((first | refine w_if2 rfl (fun _ => ?_) (fun _ => ?_) | refine w_if1 rfl (fun _ => ?_) (fun _ => ?_)) <;> try (exfalso; (((try simp only [c_eq0, c_ne0, c_Llt, c_Lle, c_Lgt, c_Lge, c_Leq, c_Lne] at *); try simp only [ax_cnd, vp_in_iff, Int32.lt_iff_toInt_lt, Int32.le_iff_toInt_le, Int64.lt_iff_toInt_lt, Int64.le_iff_toInt_le, q_eq, q_eqL, q_lg, q_nI, q_add, q_sub, q_mul, q_neg, q_addL, q_subL, q_mulL, q_negL, q_i2l, q_l2i, q_b8, q_b16, q_ofI, q_lit, q_ofNL, q_litL, ne_eq, gt_iff_lt, ge_iff_le] at *) <;> omega); done))))
      refine w_get rfl rfl (hp_at h1) rfl ?_
      (repeat (first | refine w_iadd1 rfl ?_ | refine w_isub1 rfl ?_ | refine w_iinc1 rfl rfl ?_ | refine w_s rfl rfl ?_ | refine w_get rfl rfl rfl rfl ?_ | refine w_nnl rfl ?_ | refine w_nnlR rfl ?_ | refine w_nul rfl ?_ | refine w_nulR rfl ?_ | refine w_ldc rfl rfl ?_ | refine w_ldc2 rfl rfl ?_ | refine w_put rfl rfl rfl (Nat.le_of_ble_eq_true rfl) (Or.inl rfl) rfl rfl ?_))
      refine w_ia rfl (hp_at h3) rfl (by omega) (by decide) ?_
      (repeat (first | refine w_iadd1 rfl ?_ | refine w_isub1 rfl ?_ | refine w_iinc1 rfl rfl ?_ | refine w_s rfl rfl ?_ | refine w_get rfl rfl rfl rfl ?_ | refine w_nnl rfl ?_ | refine w_nnlR rfl ?_ | refine w_nul rfl ?_ | refine w_nulR rfl ?_ | refine w_ldc rfl rfl ?_ | refine w_ldc2 rfl rfl ?_ | refine w_put rfl rfl rfl (Nat.le_of_ble_eq_true rfl) (Or.inl rfl) rfl rfl ?_))
      refine w_if1 rfl (fun h5 => ?_) (fun h5 => ?_)
      · have h6 := c_Lgt.mp h5
        rw [q_i2l, q_ofIL (by omega) (by omega)] at h6
        (repeat ((fail_if_success (show ax_wp _ _ _ 24 _ _ _)); (first | refine w_iadd1 rfl ?_ | refine w_isub1 rfl ?_ | refine w_iinc1 rfl rfl ?_ | refine w_s rfl rfl ?_ | refine w_get rfl rfl rfl rfl ?_ | refine w_nnl rfl ?_ | refine w_nnlR rfl ?_ | refine w_nul rfl ?_ | refine w_nulR rfl ?_ | refine w_ldc rfl rfl ?_ | refine w_ldc2 rfl rfl ?_ | refine w_put rfl rfl rfl (Nat.le_of_ble_eq_true rfl) (Or.inl rfl) rfl rfl ?_)))
        refine w_lv (ih (k + 1) (by omega) (by omega)) rfl ⟨rfl, rfl, ?_, rfl, trivial⟩
        have e1 : ax_jx (fun s => decide ((G.fr s).toInt ≤ ax_paid G q)) (k + 1) = ax_jx (fun s => decide ((G.fr s).toInt ≤ ax_paid G q)) k := by
          show (if decide ((G.fr k).toInt ≤ ax_paid G q) = true then k else _) = _
          rw [if_neg (by rw [decide_eq_true_eq]; omega)]
        rw [e1]
        rfl
      · have h6 : ¬ ((Int64.ofInt (ax_paid G q)).toInt < (G.fr k).toInt64.toInt) := fun z => h5 (c_Lgt.mpr z)
        rw [q_i2l, q_ofIL (by omega) (by omega)] at h6
        (repeat (first | refine w_iadd1 rfl ?_ | refine w_isub1 rfl ?_ | refine w_iinc1 rfl rfl ?_ | refine w_s rfl rfl ?_ | refine w_get rfl rfl rfl rfl ?_ | refine w_nnl rfl ?_ | refine w_nnlR rfl ?_ | refine w_nul rfl ?_ | refine w_nulR rfl ?_ | refine w_ldc rfl rfl ?_ | refine w_ldc2 rfl rfl ?_ | refine w_put rfl rfl rfl (Nat.le_of_ble_eq_true rfl) (Or.inl rfl) rfl rfl ?_))
        refine w_get rfl rfl (hp_at h1) rfl ?_
        (repeat (first | refine w_iadd1 rfl ?_ | refine w_isub1 rfl ?_ | refine w_iinc1 rfl rfl ?_ | refine w_s rfl rfl ?_ | refine w_get rfl rfl rfl rfl ?_ | refine w_nnl rfl ?_ | refine w_nnlR rfl ?_ | refine w_nul rfl ?_ | refine w_nulR rfl ?_ | refine w_ldc rfl rfl ?_ | refine w_ldc2 rfl rfl ?_ | refine w_put rfl rfl rfl (Nat.le_of_ble_eq_true rfl) (Or.inl rfl) rfl rfl ?_))
        refine w_ia rfl (hp_at h4) rfl (by omega) (by decide) ?_
        (repeat ((fail_if_success (show ax_wp _ _ _ 24 _ _ _)); (first | refine w_iadd1 rfl ?_ | refine w_isub1 rfl ?_ | refine w_iinc1 rfl rfl ?_ | refine w_s rfl rfl ?_ | refine w_get rfl rfl rfl rfl ?_ | refine w_nnl rfl ?_ | refine w_nnlR rfl ?_ | refine w_nul rfl ?_ | refine w_nulR rfl ?_ | refine w_ldc rfl rfl ?_ | refine w_ldc2 rfl rfl ?_ | refine w_put rfl rfl rfl (Nat.le_of_ble_eq_true rfl) (Or.inl rfl) rfl rfl ?_)))
        refine w_lv (ih (k + 1) (by omega) (by omega)) rfl ⟨rfl, rfl, ?_, rfl, trivial⟩
        have e1 : ax_jx (fun s => decide ((G.fr s).toInt ≤ ax_paid G q)) (k + 1) = k := by
          show (if decide ((G.fr k).toInt ≤ ax_paid G q) = true then k else _) = _
          rw [if_pos (by rw [decide_eq_true_eq]; omega)]
        rw [e1]
        rfl
  (refine ax_run_T (ax_T_of M_Gr_priceOf rfl (Nat.le_of_ble_eq_true rfl) ?_))
  (repeat (first | refine w_iadd1 rfl ?_ | refine w_isub1 rfl ?_ | refine w_iinc1 rfl rfl ?_ | refine w_s rfl rfl ?_ | refine w_get rfl rfl rfl rfl ?_ | refine w_nnl rfl ?_ | refine w_nnlR rfl ?_ | refine w_nul rfl ?_ | refine w_nulR rfl ?_ | refine w_ldc rfl rfl ?_ | refine w_ldc2 rfl rfl ?_ | refine w_put rfl rfl rfl (Nat.le_of_ble_eq_true rfl) (Or.inl rfl) rfl rfl ?_))
  refine w_get rfl rfl (hp_at h1) rfl ?_
  (repeat (first | refine w_iadd1 rfl ?_ | refine w_isub1 rfl ?_ | refine w_iinc1 rfl rfl ?_ | refine w_s rfl rfl ?_ | refine w_get rfl rfl rfl rfl ?_ | refine w_nnl rfl ?_ | refine w_nnlR rfl ?_ | refine w_nul rfl ?_ | refine w_nulR rfl ?_ | refine w_ldc rfl rfl ?_ | refine w_ldc2 rfl rfl ?_ | refine w_put rfl rfl rfl (Nat.le_of_ble_eq_true rfl) (Or.inl rfl) rfl rfl ?_))
  refine w_ia (j := 0) rfl (hp_at h3) rfl (by decide) (by decide) ?_
  (repeat (first | refine w_iadd1 rfl ?_ | refine w_isub1 rfl ?_ | refine w_iinc1 rfl rfl ?_ | refine w_s rfl rfl ?_ | refine w_get rfl rfl rfl rfl ?_ | refine w_nnl rfl ?_ | refine w_nnlR rfl ?_ | refine w_nul rfl ?_ | refine w_nulR rfl ?_ | refine w_ldc rfl rfl ?_ | refine w_ldc2 rfl rfl ?_ | refine w_put rfl rfl rfl (Nat.le_of_ble_eq_true rfl) (Or.inl rfl) rfl rfl ?_))
  (refine w_cs rfl rfl (by first | decide | exact Nat.le_of_ble_eq_true rfl) (by exact Nat.le_of_ble_eq_true rfl) (r_maxL q (G.fr 0).toInt64) ?_; dsimp only [Option.toList, List.drop, List.cons_append, List.nil_append])
  have e0 : (if q.toInt < (G.fr 0).toInt64.toInt then (G.fr 0).toInt64 else q) = Int64.ofInt (ax_paid G q) := by
    apply q_toL
    unfold ax_paid
    rw [q_i2l]
    split
    · exact q_i2l _
    · rfl
  rw [e0]
  (repeat (first | refine w_iadd1 rfl ?_ | refine w_isub1 rfl ?_ | refine w_iinc1 rfl rfl ?_ | refine w_s rfl rfl ?_ | refine w_get rfl rfl rfl rfl ?_ | refine w_nnl rfl ?_ | refine w_nnlR rfl ?_ | refine w_nul rfl ?_ | refine w_nulR rfl ?_ | refine w_ldc rfl rfl ?_ | refine w_ldc2 rfl rfl ?_ | refine w_put rfl rfl rfl (Nat.le_of_ble_eq_true rfl) (Or.inl rfl) rfl rfl ?_))
  refine w_get rfl rfl (hp_at h1) rfl ?_
  (repeat (first | refine w_iadd1 rfl ?_ | refine w_isub1 rfl ?_ | refine w_iinc1 rfl rfl ?_ | refine w_s rfl rfl ?_ | refine w_get rfl rfl rfl rfl ?_ | refine w_nnl rfl ?_ | refine w_nnlR rfl ?_ | refine w_nul rfl ?_ | refine w_nulR rfl ?_ | refine w_ldc rfl rfl ?_ | refine w_ldc2 rfl rfl ?_ | refine w_put rfl rfl rfl (Nat.le_of_ble_eq_true rfl) (Or.inl rfl) rfl rfl ?_))
  refine w_ia (j := 0) rfl (hp_at h4) rfl (by decide) (by decide) ?_
  (repeat ((fail_if_success (show ax_wp _ _ _ 24 _ _ _)); (first | refine w_iadd1 rfl ?_ | refine w_isub1 rfl ?_ | refine w_iinc1 rfl rfl ?_ | refine w_s rfl rfl ?_ | refine w_get rfl rfl rfl rfl ?_ | refine w_nnl rfl ?_ | refine w_nnlR rfl ?_ | refine w_nul rfl ?_ | refine w_nulR rfl ?_ | refine w_ldc rfl rfl ?_ | refine w_ldc2 rfl rfl ?_ | refine w_put rfl rfl rfl (Nat.le_of_ble_eq_true rfl) (Or.inl rfl) rfl rfl ?_)))
  refine w_lv (lp (G.st - 1) 1 (by omega) (by omega)) rfl ⟨rfl, rfl, ?_, rfl, trivial⟩
  have e1 : ax_jx (fun s => decide ((G.fr s).toInt ≤ ax_paid G q)) 1 = 0 := by
    show (if decide ((G.fr 0).toInt ≤ ax_paid G q) = true then 0 else _) = _
    split <;> rfl
  rw [e1]
  rfl
theorem r_checkQ1 (q : Int64) (hq : 1 ≤ q.toInt ∧ q.toInt ≤ 1000000) : ax_run m_ML_checkQuantity [.long q] h (.inl none, h) := by
  (refine ax_run_T (ax_T_of M_ML_checkQuantity rfl (Nat.le_of_ble_eq_true rfl) ?_))
  (repeat' (first | refine w_iadd1 rfl ?_ | refine w_isub1 rfl ?_ | refine w_iinc1 rfl rfl ?_ | refine w_s rfl rfl ?_ | refine w_get rfl rfl rfl rfl ?_ | refine w_nnl rfl ?_ | refine w_nnlR rfl ?_ | refine w_nul rfl ?_ | refine w_nulR rfl ?_ | refine w_ldc rfl rfl ?_ | refine w_ldc2 rfl rfl ?_ | refine w_put rfl rfl rfl (Nat.le_of_ble_eq_true rfl) (Or.inl rfl) rfl rfl ?_ | ((first | refine w_if2 rfl (fun _ => ?_) (fun _ => ?_) | refine w_if1 rfl (fun _ => ?_) (fun _ => ?_)) <;> try (exfalso; (((try simp only [c_eq0, c_ne0, c_Llt, c_Lle, c_Lgt, c_Lge, c_Leq, c_Lne] at *); try simp only [ax_cnd, vp_in_iff, Int32.lt_iff_toInt_lt, Int32.le_iff_toInt_le, Int64.lt_iff_toInt_lt, Int64.le_iff_toInt_le, q_eq, q_eqL, q_lg, q_nI, q_add, q_sub, q_mul, q_neg, q_addL, q_subL, q_mulL, q_negL, q_i2l, q_l2i, q_b8, q_b16, q_ofI, q_lit, q_ofNL, q_litL, ne_eq, gt_iff_lt, ge_iff_le] at *) <;> omega); done))))
  exact w_vret rfl rfl rfl
theorem r_checkQ0 {H : List (Option ax_C)} (q : Int64) (hq : ¬ (1 ≤ q.toInt ∧ q.toInt ≤ 1000000)) : ax_run m_ML_checkQuantity [.long q] (H, u) (.inr 1, (H ++ [none], u + 6)) := by
  (refine ax_run_T (ax_T_of M_ML_checkQuantity rfl (Nat.le_of_ble_eq_true rfl) ?_))
  (repeat' (first | refine w_iadd1 rfl ?_ | refine w_isub1 rfl ?_ | refine w_iinc1 rfl rfl ?_ | refine w_s rfl rfl ?_ | refine w_get rfl rfl rfl rfl ?_ | refine w_nnl rfl ?_ | refine w_nnlR rfl ?_ | refine w_nul rfl ?_ | refine w_nulR rfl ?_ | refine w_ldc rfl rfl ?_ | refine w_ldc2 rfl rfl ?_ | refine w_put rfl rfl rfl (Nat.le_of_ble_eq_true rfl) (Or.inl rfl) rfl rfl ?_ | ((first | refine w_if2 rfl (fun _ => ?_) (fun _ => ?_) | refine w_if1 rfl (fun _ => ?_) (fun _ => ?_)) <;> try (exfalso; (((try simp only [c_eq0, c_ne0, c_Llt, c_Lle, c_Lgt, c_Lge, c_Leq, c_Lne] at *); try simp only [ax_cnd, vp_in_iff, Int32.lt_iff_toInt_lt, Int32.le_iff_toInt_le, Int64.lt_iff_toInt_lt, Int64.le_iff_toInt_le, q_eq, q_eqL, q_lg, q_nI, q_add, q_sub, q_mul, q_neg, q_addL, q_subL, q_mulL, q_negL, q_i2l, q_l2i, q_b8, q_b16, q_ofI, q_lit, q_ofNL, q_litL, ne_eq, gt_iff_lt, ge_iff_le] at *) <;> omega); done)))) <;> (first | (refine w_thr rfl rfl rfl rfl rfl (by decide) rfl rfl ?_; rfl) | (exfalso; (((try simp only [c_eq0, c_ne0, c_Llt, c_Lle, c_Lgt, c_Lge, c_Leq, c_Lne] at *); try simp only [ax_cnd, vp_in_iff, Int32.lt_iff_toInt_lt, Int32.le_iff_toInt_le, Int64.lt_iff_toInt_lt, Int64.le_iff_toInt_le, q_eq, q_eqL, q_lg, q_nI, q_add, q_sub, q_mul, q_neg, q_addL, q_subL, q_mulL, q_negL, q_i2l, q_l2i, q_b8, q_b16, q_ofI, q_lit, q_ofNL, q_litL, ne_eq, gt_iff_lt, ge_iff_le] at *) <;> omega)))
/-- the makers' offers, and the quotes' -/
abbrev OffOk (c : ax_St) (pool : List (Option ax_C)) (Fs : Nat → ax_Of) : Prop := (c.told ≤ 4) ∧ (∀ k, k < c.told → ∃ i, c.of k = some (i + 40) ∧ OfferAt pool i (Fs k) ∧ OfferOk (Fs k)) ∧ (∀ k, c.told ≤ k → k < 4 → c.of k = none)
theorem OffOk.n {c : ax_St} {pool : List (Option ax_C)} {Fs : Nat → ax_Of} (h_ : OffOk c pool Fs) : c.told ≤ 4 := h_.1
theorem OffOk.at_ {c : ax_St} {pool : List (Option ax_C)} {Fs : Nat → ax_Of} (h_ : OffOk c pool Fs) : ∀ k, k < c.told → ∃ i, c.of k = some (i + 40) ∧ OfferAt pool i (Fs k) ∧ OfferOk (Fs k) := h_.2.1
theorem OffOk.no {c : ax_St} {pool : List (Option ax_C)} {Fs : Nat → ax_Of} (h_ : OffOk c pool Fs) : ∀ k, c.told ≤ k → k < 4 → c.of k = none := h_.2.2
abbrev QuOk (c : ax_St) (pool : List (Option ax_C)) (Qs : Nat → ax_Of) : Prop := (c.qn ≤ 10) ∧ (∀ k, k < c.qn → ∃ i, c.qo k = some (i + 40) ∧ OfferAt pool i (Qs k) ∧ OfferOk (Qs k))
theorem QuOk.n {c : ax_St} {pool : List (Option ax_C)} {Qs : Nat → ax_Of} (h_ : QuOk c pool Qs) : c.qn ≤ 10 := h_.1
theorem QuOk.at_ {c : ax_St} {pool : List (Option ax_C)} {Qs : Nat → ax_Of} (h_ : QuOk c pool Qs) : ∀ k, k < c.qn → ∃ i, c.qo k = some (i + 40) ∧ OfferAt pool i (Qs k) ∧ OfferOk (Qs k) := h_.2
theorem r_offerOf0 {Fs : Nat → ax_Of} (hF : OffOk c pool Fs) (k : Int32) (hk : ¬ (0 ≤ k.toInt ∧ k.toInt < c.told)) : ax_run m_ML_offerOf [.ref 1, .int k] (ax_hp L xs c m o pool, u) (.inr 0, (ax_hp L xs c m o (pool ++ [none]), u + 6)) := by
  have hn := hF.n
  (refine ax_run_T (ax_T_of M_ML_offerOf rfl (Nat.le_of_ble_eq_true rfl) ?_))
  (repeat' (first | refine w_iadd1 rfl ?_ | refine w_isub1 rfl ?_ | refine w_iinc1 rfl rfl ?_ | refine w_s rfl rfl ?_ | refine w_get rfl rfl rfl rfl ?_ | refine w_nnl rfl ?_ | refine w_nnlR rfl ?_ | refine w_nul rfl ?_ | refine w_nulR rfl ?_ | refine w_ldc rfl rfl ?_ | refine w_ldc2 rfl rfl ?_ | refine w_put rfl rfl rfl (Nat.le_of_ble_eq_true rfl) (Or.inl rfl) rfl rfl ?_ | ((first | refine w_if2 rfl (fun _ => ?_) (fun _ => ?_) | refine w_if1 rfl (fun _ => ?_) (fun _ => ?_)) <;> try (exfalso; (((try simp only [c_eq0, c_ne0, c_Llt, c_Lle, c_Lgt, c_Lge, c_Leq, c_Lne] at *); try simp only [ax_cnd, vp_in_iff, Int32.lt_iff_toInt_lt, Int32.le_iff_toInt_le, Int64.lt_iff_toInt_lt, Int64.le_iff_toInt_le, q_eq, q_eqL, q_lg, q_nI, q_add, q_sub, q_mul, q_neg, q_addL, q_subL, q_mulL, q_negL, q_i2l, q_l2i, q_b8, q_b16, q_ofI, q_lit, q_ofNL, q_litL, ne_eq, gt_iff_lt, ge_iff_le] at *) <;> omega); done)))) <;> try ((refine w_thr rfl rfl rfl rfl rfl (by decide) rfl rfl ?_); rfl)
  have h1 : 0 ≤ k.toInt ∧ k.toInt < 4 := by (((try simp only [c_eq0, c_ne0, c_Llt, c_Lle, c_Lgt, c_Lge, c_Leq, c_Lne] at *); try simp only [ax_cnd, vp_in_iff, Int32.lt_iff_toInt_lt, Int32.le_iff_toInt_le, Int64.lt_iff_toInt_lt, Int64.le_iff_toInt_le, q_eq, q_eqL, q_lg, q_nI, q_add, q_sub, q_mul, q_neg, q_addL, q_subL, q_mulL, q_negL, q_i2l, q_l2i, q_b8, q_b16, q_ofI, q_lit, q_ofNL, q_litL, ne_eq, gt_iff_lt, ge_iff_le] at *) <;> omega)
  obtain ⟨n, rfl, hn1, hn2⟩ := q_nat (x := k) (by omega)
  refine w_aa rfl rfl (Or.inl rfl) rfl (by omega) (by decide) ?_
  rw [hF.no n (by omega) (by omega)]
  (repeat (first | refine w_iadd1 rfl ?_ | refine w_isub1 rfl ?_ | refine w_iinc1 rfl rfl ?_ | refine w_s rfl rfl ?_ | refine w_get rfl rfl rfl rfl ?_ | refine w_nnl rfl ?_ | refine w_nnlR rfl ?_ | refine w_nul rfl ?_ | refine w_nulR rfl ?_ | refine w_ldc rfl rfl ?_ | refine w_ldc2 rfl rfl ?_ | refine w_put rfl rfl rfl (Nat.le_of_ble_eq_true rfl) (Or.inl rfl) rfl rfl ?_))
  (refine w_thr rfl rfl rfl rfl rfl (by decide) rfl rfl ?_)
  rfl
theorem r_offerOf1 {k i : Nat} (hk : k < 4) (hi : c.of k = some (i + 40)) : ax_run m_ML_offerOf [.ref 1, .int (nI k)] (ax_hp L xs c m o pool, u) (.inl (some (.ref (i + 40))), (ax_hp L xs c m o pool, u)) := by
  (refine ax_run_T (ax_T_of M_ML_offerOf rfl (Nat.le_of_ble_eq_true rfl) ?_))
  (repeat' (first | refine w_iadd1 rfl ?_ | refine w_isub1 rfl ?_ | refine w_iinc1 rfl rfl ?_ | refine w_s rfl rfl ?_ | refine w_get rfl rfl rfl rfl ?_ | refine w_nnl rfl ?_ | refine w_nnlR rfl ?_ | refine w_nul rfl ?_ | refine w_nulR rfl ?_ | refine w_ldc rfl rfl ?_ | refine w_ldc2 rfl rfl ?_ | refine w_put rfl rfl rfl (Nat.le_of_ble_eq_true rfl) (Or.inl rfl) rfl rfl ?_ | ((first | refine w_if2 rfl (fun _ => ?_) (fun _ => ?_) | refine w_if1 rfl (fun _ => ?_) (fun _ => ?_)) <;> try (exfalso; (((try simp only [c_eq0, c_ne0, c_Llt, c_Lle, c_Lgt, c_Lge, c_Leq, c_Lne] at *); try simp only [ax_cnd, vp_in_iff, Int32.lt_iff_toInt_lt, Int32.le_iff_toInt_le, Int64.lt_iff_toInt_lt, Int64.le_iff_toInt_le, q_eq, q_eqL, q_lg, q_nI, q_add, q_sub, q_mul, q_neg, q_addL, q_subL, q_mulL, q_negL, q_i2l, q_l2i, q_b8, q_b16, q_ofI, q_lit, q_ofNL, q_litL, ne_eq, gt_iff_lt, ge_iff_le] at *) <;> omega); done))))
  refine w_aa rfl rfl (Or.inl rfl) rfl (by omega) (by decide) ?_
  rw [hi]
  (repeat (first | refine w_iadd1 rfl ?_ | refine w_isub1 rfl ?_ | refine w_iinc1 rfl rfl ?_ | refine w_s rfl rfl ?_ | refine w_get rfl rfl rfl rfl ?_ | refine w_nnl rfl ?_ | refine w_nnlR rfl ?_ | refine w_nul rfl ?_ | refine w_nulR rfl ?_ | refine w_ldc rfl rfl ?_ | refine w_ldc2 rfl rfl ?_ | refine w_put rfl rfl rfl (Nat.le_of_ble_eq_true rfl) (Or.inl rfl) rfl rfl ?_))
  exact w_aret rfl rfl rfl rfl
theorem r_gradeOf0 {Fs : Nat → ax_Of} (hF : OffOk c pool Fs) (k j : Int32) (hk : ¬ (0 ≤ k.toInt ∧ k.toInt < c.told ∧ 0 ≤ j.toInt ∧ j.toInt < (Fs k.toInt.toNat).n)) : ax_run m_ML_gradeOf [.ref 1, .int k, .int j] (ax_hp L xs c m o pool, u) (.inr 0, (ax_hp L xs c m o (pool ++ [none]), u + 6)) := by
  have hn := hF.n
  (refine ax_run_T (ax_T_of M_ML_gradeOf rfl (Nat.le_of_ble_eq_true rfl) ?_))
  (repeat (first | refine w_iadd1 rfl ?_ | refine w_isub1 rfl ?_ | refine w_iinc1 rfl rfl ?_ | refine w_s rfl rfl ?_ | refine w_get rfl rfl rfl rfl ?_ | refine w_nnl rfl ?_ | refine w_nnlR rfl ?_ | refine w_nul rfl ?_ | refine w_nulR rfl ?_ | refine w_ldc rfl rfl ?_ | refine w_ldc2 rfl rfl ?_ | refine w_put rfl rfl rfl (Nat.le_of_ble_eq_true rfl) (Or.inl rfl) rfl rfl ?_))
  by_cases h1 : 0 ≤ k.toInt ∧ k.toInt < c.told
  · obtain ⟨n, rfl, hn1, hn2⟩ := q_nat (x := k) (by omega)
    obtain ⟨i, e1, e2, e3⟩ := hF.at_ n (by omega)
    (refine w_cv rfl rfl rfl rfl (by exact Nat.le_of_ble_eq_true rfl) (by exact Nat.le_of_ble_eq_true rfl) (r_offerOf1 (by omega) e1) ?_; dsimp only [Option.toList, List.drop, List.cons_append, List.nil_append])
    (repeat (first | refine w_iadd1 rfl ?_ | refine w_isub1 rfl ?_ | refine w_iinc1 rfl rfl ?_ | refine w_s rfl rfl ?_ | refine w_get rfl rfl rfl rfl ?_ | refine w_nnl rfl ?_ | refine w_nnlR rfl ?_ | refine w_nul rfl ?_ | refine w_nulR rfl ?_ | refine w_ldc rfl rfl ?_ | refine w_ldc2 rfl rfl ?_ | refine w_put rfl rfl rfl (Nat.le_of_ble_eq_true rfl) (Or.inl rfl) rfl rfl ?_))
    obtain ⟨a, gf, g1, -⟩ := id e2
    rw [← hn1] at hk
    refine w_cv rfl rfl rfl (hp_at g1) (Nat.le_of_ble_eq_true rfl) (Nat.le_of_ble_eq_true rfl) (r_gradeAt0 e2 e3 j (by simp only [Int.toNat_natCast] at hk; omega)) ?_
    dsimp only [Option.toList, List.drop, List.cons_append, List.nil_append]
    (repeat (first | refine w_iadd1 rfl ?_ | refine w_isub1 rfl ?_ | refine w_iinc1 rfl rfl ?_ | refine w_s rfl rfl ?_ | refine w_get rfl rfl rfl rfl ?_ | refine w_nnl rfl ?_ | refine w_nnlR rfl ?_ | refine w_nul rfl ?_ | refine w_nulR rfl ?_ | refine w_ldc rfl rfl ?_ | refine w_ldc2 rfl rfl ?_ | refine w_put rfl rfl rfl (Nat.le_of_ble_eq_true rfl) (Or.inl rfl) rfl rfl ?_))
    (refine w_thr rfl rfl rfl rfl rfl (by decide) rfl rfl ?_)
    rfl
  · exact w_cvx rfl rfl rfl rfl (Nat.le_of_ble_eq_true rfl) (Nat.le_of_ble_eq_true rfl) (by decide) rfl (r_offerOf0 hF k h1) rfl
theorem r_gradeOf1 {Fs : Nat → ax_Of} (hF : OffOk c pool Fs) (k j : Nat) (hk : k < c.told) (hj : j < (Fs k).n) : ∃ g, GradeAt pool g ((Fs k).g j) ∧ ax_run m_ML_gradeOf [.ref 1, .int (nI k), .int (nI j)] (ax_hp L xs c m o pool, u) (.inl (some (.ref (g + 40))), (ax_hp L xs c m o pool, u)) := by
  have hn := hF.n
  obtain ⟨i, e1, e2, e3⟩ := hF.at_ k (by omega)
  obtain ⟨g, g1, g2⟩ := r_gradeAt1 (L := L) (xs := xs) (c := c) (m := m) (o := o) (u := u) e2 e3 j hj
  refine ⟨g, g1, ?_⟩
  (refine ax_run_T (ax_T_of M_ML_gradeOf rfl (Nat.le_of_ble_eq_true rfl) ?_))
  (repeat (first | refine w_iadd1 rfl ?_ | refine w_isub1 rfl ?_ | refine w_iinc1 rfl rfl ?_ | refine w_s rfl rfl ?_ | refine w_get rfl rfl rfl rfl ?_ | refine w_nnl rfl ?_ | refine w_nnlR rfl ?_ | refine w_nul rfl ?_ | refine w_nulR rfl ?_ | refine w_ldc rfl rfl ?_ | refine w_ldc2 rfl rfl ?_ | refine w_put rfl rfl rfl (Nat.le_of_ble_eq_true rfl) (Or.inl rfl) rfl rfl ?_))
  (refine w_cv rfl rfl rfl rfl (by exact Nat.le_of_ble_eq_true rfl) (by exact Nat.le_of_ble_eq_true rfl) (r_offerOf1 (by omega) e1) ?_; dsimp only [Option.toList, List.drop, List.cons_append, List.nil_append])
  (repeat (first | refine w_iadd1 rfl ?_ | refine w_isub1 rfl ?_ | refine w_iinc1 rfl rfl ?_ | refine w_s rfl rfl ?_ | refine w_get rfl rfl rfl rfl ?_ | refine w_nnl rfl ?_ | refine w_nnlR rfl ?_ | refine w_nul rfl ?_ | refine w_nulR rfl ?_ | refine w_ldc rfl rfl ?_ | refine w_ldc2 rfl rfl ?_ | refine w_put rfl rfl rfl (Nat.le_of_ble_eq_true rfl) (Or.inl rfl) rfl rfl ?_))
  obtain ⟨a, gf, z1, -⟩ := id e2
  refine w_cv rfl rfl rfl (hp_at z1) (Nat.le_of_ble_eq_true rfl) (Nat.le_of_ble_eq_true rfl) g2 ?_
  dsimp only [Option.toList, List.drop, List.cons_append, List.nil_append]
  (repeat (first | refine w_iadd1 rfl ?_ | refine w_isub1 rfl ?_ | refine w_iinc1 rfl rfl ?_ | refine w_s rfl rfl ?_ | refine w_get rfl rfl rfl rfl ?_ | refine w_nnl rfl ?_ | refine w_nnlR rfl ?_ | refine w_nul rfl ?_ | refine w_nulR rfl ?_ | refine w_ldc rfl rfl ?_ | refine w_ldc2 rfl rfl ?_ | refine w_put rfl rfl rfl (Nat.le_of_ble_eq_true rfl) (Or.inl rfl) rfl rfl ?_))
  exact w_aret rfl rfl rfl rfl
def sp_least (c : ax_St) (Fs : Nat → ax_Of) (k : Int32) : ax_SR := if ¬ (0 ≤ k.toInt ∧ k.toInt < c.told) then .inr 0 else .inl (.int (ax_least c (Fs k.toInt.toNat)), c)
theorem r_least {Fs : Nat → ax_Of} (hF : OffOk c pool Fs) (hb : BoardOk c) (k : Int32) : ax_run m_ML_least [.ref 1, .int k] (ax_hp L xs c m o pool, u) (ax_out L xs m o pool u c (sp_least c Fs k)) := by
  have hn := hF.n
  unfold sp_least
  split
  · (refine ax_run_T (ax_T_of M_ML_least rfl (Nat.le_of_ble_eq_true rfl) ?_))
    (repeat (first | refine w_iadd1 rfl ?_ | refine w_isub1 rfl ?_ | refine w_iinc1 rfl rfl ?_ | refine w_s rfl rfl ?_ | refine w_get rfl rfl rfl rfl ?_ | refine w_nnl rfl ?_ | refine w_nnlR rfl ?_ | refine w_nul rfl ?_ | refine w_nulR rfl ?_ | refine w_ldc rfl rfl ?_ | refine w_ldc2 rfl rfl ?_ | refine w_put rfl rfl rfl (Nat.le_of_ble_eq_true rfl) (Or.inl rfl) rfl rfl ?_))
    exact w_cvx rfl rfl rfl rfl (Nat.le_of_ble_eq_true rfl) (Nat.le_of_ble_eq_true rfl) (by decide) rfl (r_offerOf0 hF k (by assumption)) rfl
  · obtain ⟨n, rfl, hn1, hn2⟩ := q_nat (x := k) (by omega)
    rw [← hn1]
    obtain ⟨i, e1, e2, e3⟩ := hF.at_ n (by omega)
    (refine ax_run_T (ax_T_of M_ML_least rfl (Nat.le_of_ble_eq_true rfl) ?_))
    (repeat (first | refine w_iadd1 rfl ?_ | refine w_isub1 rfl ?_ | refine w_iinc1 rfl rfl ?_ | refine w_s rfl rfl ?_ | refine w_get rfl rfl rfl rfl ?_ | refine w_nnl rfl ?_ | refine w_nnlR rfl ?_ | refine w_nul rfl ?_ | refine w_nulR rfl ?_ | refine w_ldc rfl rfl ?_ | refine w_ldc2 rfl rfl ?_ | refine w_put rfl rfl rfl (Nat.le_of_ble_eq_true rfl) (Or.inl rfl) rfl rfl ?_))
    (refine w_cv rfl rfl rfl rfl (by exact Nat.le_of_ble_eq_true rfl) (by exact Nat.le_of_ble_eq_true rfl) (r_offerOf1 (by omega) e1) ?_; dsimp only [Option.toList, List.drop, List.cons_append, List.nil_append])
    (repeat (first | refine w_iadd1 rfl ?_ | refine w_isub1 rfl ?_ | refine w_iinc1 rfl rfl ?_ | refine w_s rfl rfl ?_ | refine w_get rfl rfl rfl rfl ?_ | refine w_nnl rfl ?_ | refine w_nnlR rfl ?_ | refine w_nul rfl ?_ | refine w_nulR rfl ?_ | refine w_ldc rfl rfl ?_ | refine w_ldc2 rfl rfl ?_ | refine w_put rfl rfl rfl (Nat.le_of_ble_eq_true rfl) (Or.inl rfl) rfl rfl ?_))
    obtain ⟨a, gf, g1, -⟩ := id e2
    refine w_cv rfl rfl rfl (hp_at g1) (Nat.le_of_ble_eq_true rfl) (Nat.le_of_ble_eq_true rfl) (r_leastFor e2 e3 hb) ?_
    (refine w_iret rfl rfl rfl ?_)
    rfl
def sp_price (c : ax_St) (Fs : Nat → ax_Of) (k j : Int32) (q : Int64) : ax_SR := if ¬ (0 ≤ k.toInt ∧ k.toInt < c.told ∧ 0 ≤ j.toInt ∧ j.toInt < (Fs k.toInt.toNat).n) then .inr 0 else if ¬ (1 ≤ q.toInt ∧ q.toInt ≤ 1000000) then .inr 1 else .inl (.long (Int64.ofInt (ax_pri ((Fs k.toInt.toNat).g j.toInt.toNat) q)), c)
theorem r_price {Fs : Nat → ax_Of} (hF : OffOk c pool Fs) (k j : Int32) (q : Int64) : ax_run m_ML_price [.ref 1, .int k, .int j, .long q] (ax_hp L xs c m o pool, u) (ax_out L xs m o pool u c (sp_price c Fs k j q)) := by
  have hn := hF.n
  unfold sp_price
  split
  · (refine ax_run_T (ax_T_of M_ML_price rfl (Nat.le_of_ble_eq_true rfl) ?_))
    (repeat (first | refine w_iadd1 rfl ?_ | refine w_isub1 rfl ?_ | refine w_iinc1 rfl rfl ?_ | refine w_s rfl rfl ?_ | refine w_get rfl rfl rfl rfl ?_ | refine w_nnl rfl ?_ | refine w_nnlR rfl ?_ | refine w_nul rfl ?_ | refine w_nulR rfl ?_ | refine w_ldc rfl rfl ?_ | refine w_ldc2 rfl rfl ?_ | refine w_put rfl rfl rfl (Nat.le_of_ble_eq_true rfl) (Or.inl rfl) rfl rfl ?_))
    exact w_cvx rfl rfl rfl rfl (Nat.le_of_ble_eq_true rfl) (Nat.le_of_ble_eq_true rfl) (by decide) rfl (r_gradeOf0 hF k j (by assumption)) rfl
  · rename_i h0
    obtain ⟨n, rfl, hn1, hn2⟩ := q_nat (x := k) (by omega)
    obtain ⟨i, rfl, hi1, hi2⟩ := q_nat (x := j) (by omega)
    rw [← hn1, ← hi1] at h0 ⊢
    simp only [Int.toNat_natCast] at h0 ⊢
    obtain ⟨g, g1, g2⟩ := r_gradeOf1 (L := L) (xs := xs) (m := m) (o := o) (u := u) hF n i (by omega) (by omega)
    obtain ⟨-, -, -, e3⟩ := hF.at_ n (by omega)
    split
    · (refine ax_run_T (ax_T_of M_ML_price rfl (Nat.le_of_ble_eq_true rfl) ?_))
      (repeat (first | refine w_iadd1 rfl ?_ | refine w_isub1 rfl ?_ | refine w_iinc1 rfl rfl ?_ | refine w_s rfl rfl ?_ | refine w_get rfl rfl rfl rfl ?_ | refine w_nnl rfl ?_ | refine w_nnlR rfl ?_ | refine w_nul rfl ?_ | refine w_nulR rfl ?_ | refine w_ldc rfl rfl ?_ | refine w_ldc2 rfl rfl ?_ | refine w_put rfl rfl rfl (Nat.le_of_ble_eq_true rfl) (Or.inl rfl) rfl rfl ?_))
      (refine w_cv rfl rfl rfl rfl (by exact Nat.le_of_ble_eq_true rfl) (by exact Nat.le_of_ble_eq_true rfl) g2 ?_; dsimp only [Option.toList, List.drop, List.cons_append, List.nil_append])
      (repeat (first | refine w_iadd1 rfl ?_ | refine w_isub1 rfl ?_ | refine w_iinc1 rfl rfl ?_ | refine w_s rfl rfl ?_ | refine w_get rfl rfl rfl rfl ?_ | refine w_nnl rfl ?_ | refine w_nnlR rfl ?_ | refine w_nul rfl ?_ | refine w_nulR rfl ?_ | refine w_ldc rfl rfl ?_ | refine w_ldc2 rfl rfl ?_ | refine w_put rfl rfl rfl (Nat.le_of_ble_eq_true rfl) (Or.inl rfl) rfl rfl ?_))
      exact w_csx rfl rfl (Nat.le_of_ble_eq_true rfl) (Nat.le_of_ble_eq_true rfl) (by decide) rfl (r_checkQ0 q (by assumption)) rfl
    · (refine ax_run_T (ax_T_of M_ML_price rfl (Nat.le_of_ble_eq_true rfl) ?_))
      (repeat (first | refine w_iadd1 rfl ?_ | refine w_isub1 rfl ?_ | refine w_iinc1 rfl rfl ?_ | refine w_s rfl rfl ?_ | refine w_get rfl rfl rfl rfl ?_ | refine w_nnl rfl ?_ | refine w_nnlR rfl ?_ | refine w_nul rfl ?_ | refine w_nulR rfl ?_ | refine w_ldc rfl rfl ?_ | refine w_ldc2 rfl rfl ?_ | refine w_put rfl rfl rfl (Nat.le_of_ble_eq_true rfl) (Or.inl rfl) rfl rfl ?_))
      (refine w_cv rfl rfl rfl rfl (by exact Nat.le_of_ble_eq_true rfl) (by exact Nat.le_of_ble_eq_true rfl) g2 ?_; dsimp only [Option.toList, List.drop, List.cons_append, List.nil_append])
      (repeat (first | refine w_iadd1 rfl ?_ | refine w_isub1 rfl ?_ | refine w_iinc1 rfl rfl ?_ | refine w_s rfl rfl ?_ | refine w_get rfl rfl rfl rfl ?_ | refine w_nnl rfl ?_ | refine w_nnlR rfl ?_ | refine w_nul rfl ?_ | refine w_nulR rfl ?_ | refine w_ldc rfl rfl ?_ | refine w_ldc2 rfl rfl ?_ | refine w_put rfl rfl rfl (Nat.le_of_ble_eq_true rfl) (Or.inl rfl) rfl rfl ?_))
      (refine w_cs rfl rfl (by first | decide | exact Nat.le_of_ble_eq_true rfl) (by exact Nat.le_of_ble_eq_true rfl) (r_checkQ1 q (by omega)) ?_; dsimp only [Option.toList, List.drop, List.cons_append, List.nil_append])
      (repeat (first | refine w_iadd1 rfl ?_ | refine w_isub1 rfl ?_ | refine w_iinc1 rfl rfl ?_ | refine w_s rfl rfl ?_ | refine w_get rfl rfl rfl rfl ?_ | refine w_nnl rfl ?_ | refine w_nnlR rfl ?_ | refine w_nul rfl ?_ | refine w_nulR rfl ?_ | refine w_ldc rfl rfl ?_ | refine w_ldc2 rfl rfl ?_ | refine w_put rfl rfl rfl (Nat.le_of_ble_eq_true rfl) (Or.inl rfl) rfl rfl ?_))
      obtain ⟨a, b, d, can, z1, -⟩ := id g1
      refine w_cv rfl rfl rfl (hp_at z1) (Nat.le_of_ble_eq_true rfl) (Nat.le_of_ble_eq_true rfl) (r_priceOf g1 (e3.gs i (by omega)) q (by omega)) ?_
      exact w_lret rfl rfl rfl
end CG
end
section
def ax_col (c : ax_St) (G : ax_Gr) : Nat → Nat × (Nat → Int32) × (Nat → Int32)
  | 0 => (0, c.rt, c.re)
  | t + 1 => if 0 < ax_ex c G t then ((ax_col c G t).1 + 1, upd (ax_col c G t).2.1 (ax_col c G t).1 (nI t), upd (ax_col c G t).2.2 (ax_col c G t).1 (Int32.ofInt (ax_ex c G t))) else ax_col c G t
theorem ax_col_le (c : ax_St) (G : ax_Gr) : ∀ t, (ax_col c G t).1 ≤ t := by
  intro t
  induction t with
  | zero => exact Nat.le_refl _
  | succ t ih =>
    unfold ax_col
    split
    · exact Nat.succ_le_succ ih
    · omega
def ax_lat (p : Nat → Bool) : Nat → Int32
  | 0 => -1
  | q + 1 => if p q = true then nI q else ax_lat p q
theorem ax_lat_r (p : Nat → Bool) : ∀ n, n ≤ 1000 → (ax_lat p n = -1) ∨ ∃ q, q < n ∧ ax_lat p n = nI q ∧ p q = true := by
  intro n
  induction n with
  | zero => exact fun _ => Or.inl rfl
  | succ n ih =>
    intro hn
    unfold ax_lat
    split
    · exact Or.inr ⟨n, by omega, rfl, by assumption⟩
    · rcases ih (by omega) with h | ⟨q, h1, h2, h3⟩
      · exact Or.inl h
      · exact Or.inr ⟨q, by omega, h2, h3⟩
theorem ax_lst_r (p : Nat → Bool) : ∀ d k, k + d ≤ 1000 → (ax_lst p d k = -1) ∨ ∃ q, k ≤ q ∧ q < k + d ∧ ax_lst p d k = nI q ∧ p q = true := by
  intro d
  induction d with
  | zero => exact fun k _ => Or.inl rfl
  | succ d ih =>
    intro k hk
    unfold ax_lst
    split
    · exact Or.inr ⟨k, by omega, by omega, rfl, by assumption⟩
    · rcases ih (k + 1) (by omega) with h | ⟨q, h0, h1, h2, h3⟩
      · exact Or.inl h
      · exact Or.inr ⟨q, by omega, by omega, h2, h3⟩
theorem ax_least_r {c : ax_St} {F : ax_Of} (h : F.n ≤ 4) : (ax_least c F = -1) ∨ ∃ q, q < F.n ∧ ax_least c F = nI q := by
  rcases ax_lst_r (fun k => decide (ax_made c (F.g k))) F.n 0 (by omega) with h | ⟨q, -, h1, h2, -⟩
  · exact Or.inl h
  · exact Or.inr ⟨q, by omega, h2⟩
theorem nI_ne {q : Nat} (h : q < 2147483648) : ¬ nI q = -1 := by
  intro z
  have := congrArg Int32.toInt z
  rw [q_nI' h] at this
  have h2 : ((-1 : Int32)).toInt = -1 := rfl
  omega
section CH
variable {L : Nat} {xs : Nat → Int32} {c : ax_St} {m : ax_Mo} {o : Nat → Int64} {pool : List (Option ax_C)} {u : Nat} {h : ax_H}
def ax_cst (c : ax_St) (G : ax_Gr) (t : Nat) : ax_St := (ax_St.u_re (ax_St.u_rt (ax_St.u_rn c ((ax_col c G t).1)) ((ax_col c G t).2.1)) ((ax_col c G t).2.2))
theorem r_collect {g : Nat} {G : ax_Gr} (hg : GradeAt pool g G) (hok : GradeOk G) (hb : BoardOk c) :
    ax_run m_Re_collect [.ref 11, .ref 5, .ref (g + 40)] (ax_hp L xs c m o pool, u) (.inl (some (.int (nI (ax_col c G c.bn).1))), (ax_hp L xs (ax_cst c G c.bn) m o pool, u)) := by
  have hn := hb.n
  have l2 : ∀ (d k : Nat), k + d = 60 → c.bn ≤ k → ax_wp ax_run M_Re_collect (fun r' => r' = (.inl (some (.int (nI (ax_col c G c.bn).1))), (ax_hp L xs (ax_cst c G c.bn) m o pool, u))) 7 [(0, .ref 11), (1, .ref 5), (2, .ref (g + 40)), (3, .int (nI k))] [] (ax_hp L xs (ax_cst c G c.bn) m o pool, u) := by
    intro d
    induction d with
    | zero =>
      intro k hk hkb
      (repeat' (first | refine w_iadd1 rfl ?_ | refine w_isub1 rfl ?_ | refine w_iinc1 rfl rfl ?_ | refine w_s rfl rfl ?_ | refine w_get rfl rfl rfl rfl ?_ | refine w_nnl rfl ?_ | refine w_nnlR rfl ?_ | refine w_nul rfl ?_ | refine w_nulR rfl ?_ | refine w_ldc rfl rfl ?_ | refine w_ldc2 rfl rfl ?_ | refine w_put rfl rfl rfl (Nat.le_of_ble_eq_true rfl) (Or.inl rfl) rfl rfl ?_ | ((first | refine w_if2 rfl (fun _ => ?_) (fun _ => ?_) | refine w_if1 rfl (fun _ => ?_) (fun _ => ?_)) <;> try (exfalso; (((try simp only [c_eq0, c_ne0, c_Llt, c_Lle, c_Lgt, c_Lge, c_Leq, c_Lne] at *); try simp only [ax_cnd, vp_in_iff, Int32.lt_iff_toInt_lt, Int32.le_iff_toInt_le, Int64.lt_iff_toInt_lt, Int64.le_iff_toInt_le, q_eq, q_eqL, q_lg, q_nI, q_add, q_sub, q_mul, q_neg, q_addL, q_subL, q_mulL, q_negL, q_i2l, q_l2i, q_b8, q_b16, q_ofI, q_lit, q_ofNL, q_litL, ne_eq, gt_iff_lt, ge_iff_le] at *) <;> omega); done))))
      (refine w_iret rfl rfl rfl ?_)
      rfl
    | succ d ih =>
      intro k hk hkb
      (repeat' (first | refine w_iadd1 rfl ?_ | refine w_isub1 rfl ?_ | refine w_iinc1 rfl rfl ?_ | refine w_s rfl rfl ?_ | refine w_get rfl rfl rfl rfl ?_ | refine w_nnl rfl ?_ | refine w_nnlR rfl ?_ | refine w_nul rfl ?_ | refine w_nulR rfl ?_ | refine w_ldc rfl rfl ?_ | refine w_ldc2 rfl rfl ?_ | refine w_put rfl rfl rfl (Nat.le_of_ble_eq_true rfl) (Or.inl rfl) rfl rfl ?_ | ((first | refine w_if2 rfl (fun _ => ?_) (fun _ => ?_) | refine w_if1 rfl (fun _ => ?_) (fun _ => ?_)) <;> try (exfalso; (((try simp only [c_eq0, c_ne0, c_Llt, c_Lle, c_Lgt, c_Lge, c_Leq, c_Lne] at *); try simp only [ax_cnd, vp_in_iff, Int32.lt_iff_toInt_lt, Int32.le_iff_toInt_le, Int64.lt_iff_toInt_lt, Int64.le_iff_toInt_le, q_eq, q_eqL, q_lg, q_nI, q_add, q_sub, q_mul, q_neg, q_addL, q_subL, q_mulL, q_negL, q_i2l, q_l2i, q_b8, q_b16, q_ofI, q_lit, q_ofNL, q_litL, ne_eq, gt_iff_lt, ge_iff_le] at *) <;> omega); done))))
      (refine w_cv rfl rfl rfl rfl (by exact Nat.le_of_ble_eq_true rfl) (by exact Nat.le_of_ble_eq_true rfl) (r_Bd_excess0 (c := ax_cst c G c.bn) hn k hkb (by omega)) ?_; dsimp only [Option.toList, List.drop, List.cons_append, List.nil_append])
      (repeat (first | refine w_iadd1 rfl ?_ | refine w_isub1 rfl ?_ | refine w_iinc1 rfl rfl ?_ | refine w_s rfl rfl ?_ | refine w_get rfl rfl rfl rfl ?_ | refine w_nnl rfl ?_ | refine w_nnlR rfl ?_ | refine w_nul rfl ?_ | refine w_nulR rfl ?_ | refine w_ldc rfl rfl ?_ | refine w_ldc2 rfl rfl ?_ | refine w_put rfl rfl rfl (Nat.le_of_ble_eq_true rfl) (Or.inl rfl) rfl rfl ?_))
      refine w_if1 rfl (fun h5 => ?_) (fun h5 => absurd (show (0 : Int32) ≤ 0 from by decide) h5)
      (repeat ((fail_if_success (show ax_wp _ _ _ 7 _ _ _)); (first | refine w_iadd1 rfl ?_ | refine w_isub1 rfl ?_ | refine w_iinc1 rfl rfl ?_ | refine w_s rfl rfl ?_ | refine w_get rfl rfl rfl rfl ?_ | refine w_nnl rfl ?_ | refine w_nnlR rfl ?_ | refine w_nul rfl ?_ | refine w_nulR rfl ?_ | refine w_ldc rfl rfl ?_ | refine w_ldc2 rfl rfl ?_ | refine w_put rfl rfl rfl (Nat.le_of_ble_eq_true rfl) (Or.inl rfl) rfl rfl ?_)))
      exact w_lv (ih (k + 1) (by omega) (by omega)) rfl ⟨rfl, rfl, rfl, rfl, trivial⟩
  have l1 : ∀ (d k : Nat), k + d = c.bn → ax_wp ax_run M_Re_collect (fun r' => r' = (.inl (some (.int (nI (ax_col c G c.bn).1))), (ax_hp L xs (ax_cst c G c.bn) m o pool, u))) 7 [(0, .ref 11), (1, .ref 5), (2, .ref (g + 40)), (3, .int (nI k))] [] (ax_hp L xs (ax_cst c G k) m o pool, u) := by
    intro d
    induction d with
    | zero =>
      intro k hk
      have : k = c.bn := by omega
      subst this
      exact l2 (60 - c.bn) c.bn (by omega) (Nat.le_refl _)
    | succ d ih =>
      intro k hk
      have hle := ax_col_le c G k
      have hx := ax_ex_b hb hok (t := k) (by omega)
      have hb' : BoardOk (ax_cst c G k) := ⟨hb.n, hb.k, hb.v⟩
      (repeat' (first | refine w_iadd1 rfl ?_ | refine w_isub1 rfl ?_ | refine w_iinc1 rfl rfl ?_ | refine w_s rfl rfl ?_ | refine w_get rfl rfl rfl rfl ?_ | refine w_nnl rfl ?_ | refine w_nnlR rfl ?_ | refine w_nul rfl ?_ | refine w_nulR rfl ?_ | refine w_ldc rfl rfl ?_ | refine w_ldc2 rfl rfl ?_ | refine w_put rfl rfl rfl (Nat.le_of_ble_eq_true rfl) (Or.inl rfl) rfl rfl ?_ | ((first | refine w_if2 rfl (fun _ => ?_) (fun _ => ?_) | refine w_if1 rfl (fun _ => ?_) (fun _ => ?_)) <;> try (exfalso; (((try simp only [c_eq0, c_ne0, c_Llt, c_Lle, c_Lgt, c_Lge, c_Leq, c_Lne] at *); try simp only [ax_cnd, vp_in_iff, Int32.lt_iff_toInt_lt, Int32.le_iff_toInt_le, Int64.lt_iff_toInt_lt, Int64.le_iff_toInt_le, q_eq, q_eqL, q_lg, q_nI, q_add, q_sub, q_mul, q_neg, q_addL, q_subL, q_mulL, q_negL, q_i2l, q_l2i, q_b8, q_b16, q_ofI, q_lit, q_ofNL, q_litL, ne_eq, gt_iff_lt, ge_iff_le] at *) <;> omega); done))))
      (refine w_cv rfl rfl rfl rfl (by exact Nat.le_of_ble_eq_true rfl) (by exact Nat.le_of_ble_eq_true rfl) (r_Bd_excess1 (c := ax_cst c G k) hg hok hb' k (by show k < c.bn; omega)) ?_; dsimp only [Option.toList, List.drop, List.cons_append, List.nil_append])
      (repeat (first | refine w_iadd1 rfl ?_ | refine w_isub1 rfl ?_ | refine w_iinc1 rfl rfl ?_ | refine w_s rfl rfl ?_ | refine w_get rfl rfl rfl rfl ?_ | refine w_nnl rfl ?_ | refine w_nnlR rfl ?_ | refine w_nul rfl ?_ | refine w_nulR rfl ?_ | refine w_ldc rfl rfl ?_ | refine w_ldc2 rfl rfl ?_ | refine w_put rfl rfl rfl (Nat.le_of_ble_eq_true rfl) (Or.inl rfl) rfl rfl ?_))
      have hex : ax_ex (ax_cst c G k) G k = ax_ex c G k := rfl
      rw [hex]
      refine w_if1 rfl (fun h5 => ?_) (fun h5 => ?_)
      · have h6 : ¬ 0 < ax_ex c G k := by
          have := Int32.le_iff_toInt_le.mp h5
          rw [q_ofI] at this
          have h0 : ((0 : Int32)).toInt = 0 := rfl
          omega
        (repeat ((fail_if_success (show ax_wp _ _ _ 7 _ _ _)); (first | refine w_iadd1 rfl ?_ | refine w_isub1 rfl ?_ | refine w_iinc1 rfl rfl ?_ | refine w_s rfl rfl ?_ | refine w_get rfl rfl rfl rfl ?_ | refine w_nnl rfl ?_ | refine w_nnlR rfl ?_ | refine w_nul rfl ?_ | refine w_nulR rfl ?_ | refine w_ldc rfl rfl ?_ | refine w_ldc2 rfl rfl ?_ | refine w_put rfl rfl rfl (Nat.le_of_ble_eq_true rfl) (Or.inl rfl) rfl rfl ?_)))
        have e : ax_cst c G (k + 1) = ax_cst c G k := by
          unfold ax_cst
          rw [show ax_col c G (k + 1) = ax_col c G k from if_neg h6]
        have := ih (k + 1) (by omega)
        rw [e] at this
        exact w_lv this rfl ⟨rfl, rfl, rfl, rfl, trivial⟩
      · have h6 : 0 < ax_ex c G k := by
          have h7 : ¬ (Int32.ofInt (ax_ex c G k)).toInt ≤ ((0 : Int32)).toInt := fun z => h5 (Int32.le_iff_toInt_le.mpr z)
          rw [q_ofI] at h7
          have h0 : ((0 : Int32)).toInt = 0 := rfl
          omega
        (repeat (first | refine w_iadd1 rfl ?_ | refine w_isub1 rfl ?_ | refine w_iinc1 rfl rfl ?_ | refine w_s rfl rfl ?_ | refine w_get rfl rfl rfl rfl ?_ | refine w_nnl rfl ?_ | refine w_nnlR rfl ?_ | refine w_nul rfl ?_ | refine w_nulR rfl ?_ | refine w_ldc rfl rfl ?_ | refine w_ldc2 rfl rfl ?_ | refine w_put rfl rfl rfl (Nat.le_of_ble_eq_true rfl) (Or.inl rfl) rfl rfl ?_))
        refine w_ias rfl rfl rfl (by show (ax_col c G k).1 < 60; omega) (by decide) ?_
        (repeat (first | refine w_iadd1 rfl ?_ | refine w_isub1 rfl ?_ | refine w_iinc1 rfl rfl ?_ | refine w_s rfl rfl ?_ | refine w_get rfl rfl rfl rfl ?_ | refine w_nnl rfl ?_ | refine w_nnlR rfl ?_ | refine w_nul rfl ?_ | refine w_nulR rfl ?_ | refine w_ldc rfl rfl ?_ | refine w_ldc2 rfl rfl ?_ | refine w_put rfl rfl rfl (Nat.le_of_ble_eq_true rfl) (Or.inl rfl) rfl rfl ?_))
        refine w_ias rfl rfl rfl (by show (ax_col c G k).1 < 60; omega) (by decide) ?_
        (repeat ((fail_if_success (show ax_wp _ _ _ 7 _ _ _)); (first | refine w_iadd1 rfl ?_ | refine w_isub1 rfl ?_ | refine w_iinc1 rfl rfl ?_ | refine w_s rfl rfl ?_ | refine w_get rfl rfl rfl rfl ?_ | refine w_nnl rfl ?_ | refine w_nnlR rfl ?_ | refine w_nul rfl ?_ | refine w_nulR rfl ?_ | refine w_ldc rfl rfl ?_ | refine w_ldc2 rfl rfl ?_ | refine w_put rfl rfl rfl (Nat.le_of_ble_eq_true rfl) (Or.inl rfl) rfl rfl ?_)))
        have e : ax_cst c G (k + 1) = (ax_St.u_re (ax_St.u_rt (ax_St.u_rn c ((ax_col c G k).1 + 1)) (upd (ax_col c G k).2.1 (ax_col c G k).1 (nI k))) (upd (ax_col c G k).2.2 (ax_col c G k).1 (Int32.ofInt (ax_ex c G k)))) := by
          unfold ax_cst
          rw [show ax_col c G (k + 1) = _ from if_pos h6]
        have := ih (k + 1) (by omega)
        rw [e] at this
        exact w_lv this rfl ⟨rfl, rfl, rfl, rfl, trivial⟩
  (refine ax_run_T (ax_T_of M_Re_collect rfl (Nat.le_of_ble_eq_true rfl) ?_))
  (repeat ((fail_if_success (show ax_wp _ _ _ 7 _ _ _)); (first | refine w_iadd1 rfl ?_ | refine w_isub1 rfl ?_ | refine w_iinc1 rfl rfl ?_ | refine w_s rfl rfl ?_ | refine w_get rfl rfl rfl rfl ?_ | refine w_nnl rfl ?_ | refine w_nnlR rfl ?_ | refine w_nul rfl ?_ | refine w_nulR rfl ?_ | refine w_ldc rfl rfl ?_ | refine w_ldc2 rfl rfl ?_ | refine w_put rfl rfl rfl (Nat.le_of_ble_eq_true rfl) (Or.inl rfl) rfl rfl ?_)))
  exact w_lv (l1 c.bn 0 (by omega)) rfl ⟨rfl, rfl, rfl, rfl, trivial⟩
def sp_run (c : ax_St) (Fs : Nat → ax_Of) (k j : Int32) : ax_SR := if ¬ (0 ≤ k.toInt ∧ k.toInt < c.told ∧ 0 ≤ j.toInt ∧ j.toInt < (Fs k.toInt.toNat).n) then .inr 0 else .inl (.int (nI (ax_col c ((Fs k.toInt.toNat).g j.toInt.toNat) c.bn).1), ax_cst c ((Fs k.toInt.toNat).g j.toInt.toNat) c.bn)
theorem r_run {Fs : Nat → ax_Of} (hF : OffOk c pool Fs) (hb : BoardOk c) (k j : Int32) : ax_run m_ML_run [.ref 1, .int k, .int j] (ax_hp L xs c m o pool, u) (ax_out L xs m o pool u c (sp_run c Fs k j)) := by
  have hn := hF.n
  unfold sp_run
  split
  · (refine ax_run_T (ax_T_of M_ML_run rfl (Nat.le_of_ble_eq_true rfl) ?_))
    (repeat (first | refine w_iadd1 rfl ?_ | refine w_isub1 rfl ?_ | refine w_iinc1 rfl rfl ?_ | refine w_s rfl rfl ?_ | refine w_get rfl rfl rfl rfl ?_ | refine w_nnl rfl ?_ | refine w_nnlR rfl ?_ | refine w_nul rfl ?_ | refine w_nulR rfl ?_ | refine w_ldc rfl rfl ?_ | refine w_ldc2 rfl rfl ?_ | refine w_put rfl rfl rfl (Nat.le_of_ble_eq_true rfl) (Or.inl rfl) rfl rfl ?_))
    exact w_cvx rfl rfl rfl rfl (Nat.le_of_ble_eq_true rfl) (Nat.le_of_ble_eq_true rfl) (by decide) rfl (r_gradeOf0 hF k j (by assumption)) rfl
  · rename_i h0
    obtain ⟨n, rfl, hn1, hn2⟩ := q_nat (x := k) (by omega)
    obtain ⟨i, rfl, hi1, hi2⟩ := q_nat (x := j) (by omega)
    rw [← hn1, ← hi1] at h0 ⊢
    simp only [Int.toNat_natCast] at h0 ⊢
    obtain ⟨g, g1, g2⟩ := r_gradeOf1 (L := L) (xs := xs) (m := m) (o := o) (u := u) hF n i (by omega) (by omega)
    obtain ⟨-, -, -, e3⟩ := hF.at_ n (by omega)
    (refine ax_run_T (ax_T_of M_ML_run rfl (Nat.le_of_ble_eq_true rfl) ?_))
    (repeat (first | refine w_iadd1 rfl ?_ | refine w_isub1 rfl ?_ | refine w_iinc1 rfl rfl ?_ | refine w_s rfl rfl ?_ | refine w_get rfl rfl rfl rfl ?_ | refine w_nnl rfl ?_ | refine w_nnlR rfl ?_ | refine w_nul rfl ?_ | refine w_nulR rfl ?_ | refine w_ldc rfl rfl ?_ | refine w_ldc2 rfl rfl ?_ | refine w_put rfl rfl rfl (Nat.le_of_ble_eq_true rfl) (Or.inl rfl) rfl rfl ?_))
    (refine w_cv rfl rfl rfl rfl (by exact Nat.le_of_ble_eq_true rfl) (by exact Nat.le_of_ble_eq_true rfl) g2 ?_; dsimp only [Option.toList, List.drop, List.cons_append, List.nil_append])
    (refine w_cv rfl rfl rfl rfl (by exact Nat.le_of_ble_eq_true rfl) (by exact Nat.le_of_ble_eq_true rfl) (r_collect g1 (e3.gs i (by omega)) hb) ?_; dsimp only [Option.toList, List.drop, List.cons_append, List.nil_append])
    (refine w_iret rfl rfl rfl ?_)
    rfl
def sp_quote (c : ax_St) (k : Int32) (d : Int64) : ax_SR := if ¬ (0 ≤ k.toInt ∧ k.toInt < c.told) then .inr 0 else if c.qn = 10 then .inl (.int (-1), c)
  else .inl (.int (nI c.qn), (ax_St.u_qn (ax_St.u_qu (ax_St.u_qo (ax_St.u_qm c (upd c.qm c.qn k)) (va_up c.qo c.qn (c.of k.toInt.toNat))) (vp_updL c.qu c.qn d)) (c.qn + 1)))
theorem r_quote {Fs : Nat → ax_Of} (hF : OffOk c pool Fs) (hq : c.qn ≤ 10) (k : Int32) (d : Int64) : ax_run m_ML_quote [.ref 1, .int k, .long d] (ax_hp L xs c m o pool, u) (ax_out L xs m o pool u c (sp_quote c k d)) := by
  have hn := hF.n
  unfold sp_quote
  split
  · (refine ax_run_T (ax_T_of M_ML_quote rfl (Nat.le_of_ble_eq_true rfl) ?_))
    (repeat (first | refine w_iadd1 rfl ?_ | refine w_isub1 rfl ?_ | refine w_iinc1 rfl rfl ?_ | refine w_s rfl rfl ?_ | refine w_get rfl rfl rfl rfl ?_ | refine w_nnl rfl ?_ | refine w_nnlR rfl ?_ | refine w_nul rfl ?_ | refine w_nulR rfl ?_ | refine w_ldc rfl rfl ?_ | refine w_ldc2 rfl rfl ?_ | refine w_put rfl rfl rfl (Nat.le_of_ble_eq_true rfl) (Or.inl rfl) rfl rfl ?_))
    exact w_cvx rfl rfl rfl rfl (Nat.le_of_ble_eq_true rfl) (Nat.le_of_ble_eq_true rfl) (by decide) rfl (r_offerOf0 hF k (by assumption)) rfl
  · rename_i h0
    obtain ⟨n, rfl, hn1, hn2⟩ := q_nat (x := k) (by omega)
    rw [← hn1]
    simp only [Int.toNat_natCast]
    obtain ⟨i, e1, e2, e3⟩ := hF.at_ n (by omega)
    obtain ⟨a, gf, z1, -⟩ := id e2
    rw [e1]
    split
    · have ha : ax_run m_Qu_add [.ref 14, .int (nI n), .ref (i + 40), .long d] (ax_hp L xs c m o pool, u) (.inl (some (.int (-1))), (ax_hp L xs c m o pool, u)) := by
        (refine ax_run_T (ax_T_of M_Qu_add rfl (Nat.le_of_ble_eq_true rfl) ?_))
        (repeat' (first | refine w_iadd1 rfl ?_ | refine w_isub1 rfl ?_ | refine w_iinc1 rfl rfl ?_ | refine w_s rfl rfl ?_ | refine w_get rfl rfl rfl rfl ?_ | refine w_nnl rfl ?_ | refine w_nnlR rfl ?_ | refine w_nul rfl ?_ | refine w_nulR rfl ?_ | refine w_ldc rfl rfl ?_ | refine w_ldc2 rfl rfl ?_ | refine w_put rfl rfl rfl (Nat.le_of_ble_eq_true rfl) (Or.inl rfl) rfl rfl ?_ | ((first | refine w_if2 rfl (fun _ => ?_) (fun _ => ?_) | refine w_if1 rfl (fun _ => ?_) (fun _ => ?_)) <;> try (exfalso; (((try simp only [c_eq0, c_ne0, c_Llt, c_Lle, c_Lgt, c_Lge, c_Leq, c_Lne] at *); try simp only [ax_cnd, vp_in_iff, Int32.lt_iff_toInt_lt, Int32.le_iff_toInt_le, Int64.lt_iff_toInt_lt, Int64.le_iff_toInt_le, q_eq, q_eqL, q_lg, q_nI, q_add, q_sub, q_mul, q_neg, q_addL, q_subL, q_mulL, q_negL, q_i2l, q_l2i, q_b8, q_b16, q_ofI, q_lit, q_ofNL, q_litL, ne_eq, gt_iff_lt, ge_iff_le] at *) <;> omega); done))))
        (refine w_iret rfl rfl rfl ?_)
        rfl
      (refine ax_run_T (ax_T_of M_ML_quote rfl (Nat.le_of_ble_eq_true rfl) ?_))
      (repeat (first | refine w_iadd1 rfl ?_ | refine w_isub1 rfl ?_ | refine w_iinc1 rfl rfl ?_ | refine w_s rfl rfl ?_ | refine w_get rfl rfl rfl rfl ?_ | refine w_nnl rfl ?_ | refine w_nnlR rfl ?_ | refine w_nul rfl ?_ | refine w_nulR rfl ?_ | refine w_ldc rfl rfl ?_ | refine w_ldc2 rfl rfl ?_ | refine w_put rfl rfl rfl (Nat.le_of_ble_eq_true rfl) (Or.inl rfl) rfl rfl ?_))
      (refine w_cv rfl rfl rfl rfl (by exact Nat.le_of_ble_eq_true rfl) (by exact Nat.le_of_ble_eq_true rfl) (r_offerOf1 (by omega) e1) ?_; dsimp only [Option.toList, List.drop, List.cons_append, List.nil_append])
      (repeat (first | refine w_iadd1 rfl ?_ | refine w_isub1 rfl ?_ | refine w_iinc1 rfl rfl ?_ | refine w_s rfl rfl ?_ | refine w_get rfl rfl rfl rfl ?_ | refine w_nnl rfl ?_ | refine w_nnlR rfl ?_ | refine w_nul rfl ?_ | refine w_nulR rfl ?_ | refine w_ldc rfl rfl ?_ | refine w_ldc2 rfl rfl ?_ | refine w_put rfl rfl rfl (Nat.le_of_ble_eq_true rfl) (Or.inl rfl) rfl rfl ?_))
      (refine w_cv rfl rfl rfl rfl (by exact Nat.le_of_ble_eq_true rfl) (by exact Nat.le_of_ble_eq_true rfl) ha ?_; dsimp only [Option.toList, List.drop, List.cons_append, List.nil_append])
      (refine w_iret rfl rfl rfl ?_)
      rfl
    · have ha : ax_run m_Qu_add [.ref 14, .int (nI n), .ref (i + 40), .long d] (ax_hp L xs c m o pool, u) (.inl (some (.int (nI c.qn))), (ax_hp L xs (ax_St.u_qn (ax_St.u_qu (ax_St.u_qo (ax_St.u_qm c (upd c.qm c.qn (nI n))) (va_up c.qo c.qn (some (i + 40)))) (vp_updL c.qu c.qn d)) (c.qn + 1)) m o pool, u)) := by
        (refine ax_run_T (ax_T_of M_Qu_add rfl (Nat.le_of_ble_eq_true rfl) ?_))
        (repeat' (first | refine w_iadd1 rfl ?_ | refine w_isub1 rfl ?_ | refine w_iinc1 rfl rfl ?_ | refine w_s rfl rfl ?_ | refine w_get rfl rfl rfl rfl ?_ | refine w_nnl rfl ?_ | refine w_nnlR rfl ?_ | refine w_nul rfl ?_ | refine w_nulR rfl ?_ | refine w_ldc rfl rfl ?_ | refine w_ldc2 rfl rfl ?_ | refine w_put rfl rfl rfl (Nat.le_of_ble_eq_true rfl) (Or.inl rfl) rfl rfl ?_ | ((first | refine w_if2 rfl (fun _ => ?_) (fun _ => ?_) | refine w_if1 rfl (fun _ => ?_) (fun _ => ?_)) <;> try (exfalso; (((try simp only [c_eq0, c_ne0, c_Llt, c_Lle, c_Lgt, c_Lge, c_Leq, c_Lne] at *); try simp only [ax_cnd, vp_in_iff, Int32.lt_iff_toInt_lt, Int32.le_iff_toInt_le, Int64.lt_iff_toInt_lt, Int64.le_iff_toInt_le, q_eq, q_eqL, q_lg, q_nI, q_add, q_sub, q_mul, q_neg, q_addL, q_subL, q_mulL, q_negL, q_i2l, q_l2i, q_b8, q_b16, q_ofI, q_lit, q_ofNL, q_litL, ne_eq, gt_iff_lt, ge_iff_le] at *) <;> omega); done))))
        refine w_ias rfl rfl rfl (by omega) (by decide) ?_
        (repeat (first | refine w_iadd1 rfl ?_ | refine w_isub1 rfl ?_ | refine w_iinc1 rfl rfl ?_ | refine w_s rfl rfl ?_ | refine w_get rfl rfl rfl rfl ?_ | refine w_nnl rfl ?_ | refine w_nnlR rfl ?_ | refine w_nul rfl ?_ | refine w_nulR rfl ?_ | refine w_ldc rfl rfl ?_ | refine w_ldc2 rfl rfl ?_ | refine w_put rfl rfl rfl (Nat.le_of_ble_eq_true rfl) (Or.inl rfl) rfl rfl ?_))
        refine w_aas rfl rfl (Or.inl rfl) rfl (by omega) (by decide) z1 ?_
        (repeat (first | refine w_iadd1 rfl ?_ | refine w_isub1 rfl ?_ | refine w_iinc1 rfl rfl ?_ | refine w_s rfl rfl ?_ | refine w_get rfl rfl rfl rfl ?_ | refine w_nnl rfl ?_ | refine w_nnlR rfl ?_ | refine w_nul rfl ?_ | refine w_nulR rfl ?_ | refine w_ldc rfl rfl ?_ | refine w_ldc2 rfl rfl ?_ | refine w_put rfl rfl rfl (Nat.le_of_ble_eq_true rfl) (Or.inl rfl) rfl rfl ?_))
        refine w_las rfl rfl rfl (by omega) (by decide) ?_
        (repeat (first | refine w_iadd1 rfl ?_ | refine w_isub1 rfl ?_ | refine w_iinc1 rfl rfl ?_ | refine w_s rfl rfl ?_ | refine w_get rfl rfl rfl rfl ?_ | refine w_nnl rfl ?_ | refine w_nnlR rfl ?_ | refine w_nul rfl ?_ | refine w_nulR rfl ?_ | refine w_ldc rfl rfl ?_ | refine w_ldc2 rfl rfl ?_ | refine w_put rfl rfl rfl (Nat.le_of_ble_eq_true rfl) (Or.inl rfl) rfl rfl ?_))
        (refine w_iret rfl rfl rfl ?_)
        rfl
      (refine ax_run_T (ax_T_of M_ML_quote rfl (Nat.le_of_ble_eq_true rfl) ?_))
      (repeat (first | refine w_iadd1 rfl ?_ | refine w_isub1 rfl ?_ | refine w_iinc1 rfl rfl ?_ | refine w_s rfl rfl ?_ | refine w_get rfl rfl rfl rfl ?_ | refine w_nnl rfl ?_ | refine w_nnlR rfl ?_ | refine w_nul rfl ?_ | refine w_nulR rfl ?_ | refine w_ldc rfl rfl ?_ | refine w_ldc2 rfl rfl ?_ | refine w_put rfl rfl rfl (Nat.le_of_ble_eq_true rfl) (Or.inl rfl) rfl rfl ?_))
      (refine w_cv rfl rfl rfl rfl (by exact Nat.le_of_ble_eq_true rfl) (by exact Nat.le_of_ble_eq_true rfl) (r_offerOf1 (by omega) e1) ?_; dsimp only [Option.toList, List.drop, List.cons_append, List.nil_append])
      (repeat (first | refine w_iadd1 rfl ?_ | refine w_isub1 rfl ?_ | refine w_iinc1 rfl rfl ?_ | refine w_s rfl rfl ?_ | refine w_get rfl rfl rfl rfl ?_ | refine w_nnl rfl ?_ | refine w_nnlR rfl ?_ | refine w_nul rfl ?_ | refine w_nulR rfl ?_ | refine w_ldc rfl rfl ?_ | refine w_ldc2 rfl rfl ?_ | refine w_put rfl rfl rfl (Nat.le_of_ble_eq_true rfl) (Or.inl rfl) rfl rfl ?_))
      (refine w_cv rfl rfl rfl rfl (by exact Nat.le_of_ble_eq_true rfl) (by exact Nat.le_of_ble_eq_true rfl) ha ?_; dsimp only [Option.toList, List.drop, List.cons_append, List.nil_append])
      (refine w_iret rfl rfl rfl ?_)
      rfl
def ax_latest (c : ax_St) (k : Int32) (d : Int64) : Int32 := ax_lat (fun q => decide (c.qm q = k ∧ d.toInt ≤ (c.qu q).toInt)) c.qn
theorem r_latest (hq : c.qn ≤ 10) (k : Int32) (d : Int64) : ax_run m_Qu_latest [.ref 14, .int k, .long d] (ax_hp L xs c m o pool, u) (.inl (some (.int (ax_latest c k d))), (ax_hp L xs c m o pool, u)) := by
  have lp : ∀ (n : Nat) (x : Int32), n ≤ c.qn → x.toInt = (n : Int) - 1 → ax_wp ax_run M_Qu_latest (fun r' => r' = (.inl (some (.int (ax_lat (fun q => decide (c.qm q = k ∧ d.toInt ≤ (c.qu q).toInt)) n))), (ax_hp L xs c m o pool, u))) 8 [(0, .ref 14), (1, .int k), (2, .long d), (4, .int x)] [] (ax_hp L xs c m o pool, u) := by
    intro n
    induction n with
    | zero =>
      intro x hn hx
      (repeat' (first | refine w_iadd1 rfl ?_ | refine w_isub1 rfl ?_ | refine w_iinc1 rfl rfl ?_ | refine w_s rfl rfl ?_ | refine w_get rfl rfl rfl rfl ?_ | refine w_nnl rfl ?_ | refine w_nnlR rfl ?_ | refine w_nul rfl ?_ | refine w_nulR rfl ?_ | refine w_ldc rfl rfl ?_ | refine w_ldc2 rfl rfl ?_ | refine w_put rfl rfl rfl (Nat.le_of_ble_eq_true rfl) (Or.inl rfl) rfl rfl ?_ | ((first | refine w_if2 rfl (fun _ => ?_) (fun _ => ?_) | refine w_if1 rfl (fun _ => ?_) (fun _ => ?_)) <;> try (exfalso; (((try simp only [c_eq0, c_ne0, c_Llt, c_Lle, c_Lgt, c_Lge, c_Leq, c_Lne] at *); try simp only [ax_cnd, vp_in_iff, Int32.lt_iff_toInt_lt, Int32.le_iff_toInt_le, Int64.lt_iff_toInt_lt, Int64.le_iff_toInt_le, q_eq, q_eqL, q_lg, q_nI, q_add, q_sub, q_mul, q_neg, q_addL, q_subL, q_mulL, q_negL, q_i2l, q_l2i, q_b8, q_b16, q_ofI, q_lit, q_ofNL, q_litL, ne_eq, gt_iff_lt, ge_iff_le] at *) <;> omega); done))))
      (refine w_iret rfl rfl rfl ?_)
      rfl
    | succ n ih =>
      intro x hn hx
      have hx' : x = nI n := q_nIof (by omega) (by omega)
      subst hx'
      (repeat' (first | refine w_iadd1 rfl ?_ | refine w_isub1 rfl ?_ | refine w_iinc1 rfl rfl ?_ | refine w_s rfl rfl ?_ | refine w_get rfl rfl rfl rfl ?_ | refine w_nnl rfl ?_ | refine w_nnlR rfl ?_ | refine w_nul rfl ?_ | refine w_nulR rfl ?_ | refine w_ldc rfl rfl ?_ | refine w_ldc2 rfl rfl ?_ | refine w_put rfl rfl rfl (Nat.le_of_ble_eq_true rfl) (Or.inl rfl) rfl rfl ?_ | ((first | refine w_if2 rfl (fun _ => ?_) (fun _ => ?_) | refine w_if1 rfl (fun _ => ?_) (fun _ => ?_)) <;> try (exfalso; (((try simp only [c_eq0, c_ne0, c_Llt, c_Lle, c_Lgt, c_Lge, c_Leq, c_Lne] at *); try simp only [ax_cnd, vp_in_iff, Int32.lt_iff_toInt_lt, Int32.le_iff_toInt_le, Int64.lt_iff_toInt_lt, Int64.le_iff_toInt_le, q_eq, q_eqL, q_lg, q_nI, q_add, q_sub, q_mul, q_neg, q_addL, q_subL, q_mulL, q_negL, q_i2l, q_l2i, q_b8, q_b16, q_ofI, q_lit, q_ofNL, q_litL, ne_eq, gt_iff_lt, ge_iff_le] at *) <;> omega); done))))
      refine w_ia rfl rfl rfl (by omega) (by decide) ?_
      (repeat (first | refine w_iadd1 rfl ?_ | refine w_isub1 rfl ?_ | refine w_iinc1 rfl rfl ?_ | refine w_s rfl rfl ?_ | refine w_get rfl rfl rfl rfl ?_ | refine w_nnl rfl ?_ | refine w_nnlR rfl ?_ | refine w_nul rfl ?_ | refine w_nulR rfl ?_ | refine w_ldc rfl rfl ?_ | refine w_ldc2 rfl rfl ?_ | refine w_put rfl rfl rfl (Nat.le_of_ble_eq_true rfl) (Or.inl rfl) rfl rfl ?_))
      refine w_if2 rfl (fun h5 => ?_) (fun h5 => ?_)
      · have h6 : ¬ c.qm n = k := h5
        (repeat ((fail_if_success (show ax_wp _ _ _ 8 _ _ _)); (first | refine w_iadd1 rfl ?_ | refine w_isub1 rfl ?_ | refine w_iinc1 rfl rfl ?_ | refine w_s rfl rfl ?_ | refine w_get rfl rfl rfl rfl ?_ | refine w_nnl rfl ?_ | refine w_nnlR rfl ?_ | refine w_nul rfl ?_ | refine w_nulR rfl ?_ | refine w_ldc rfl rfl ?_ | refine w_ldc2 rfl rfl ?_ | refine w_put rfl rfl rfl (Nat.le_of_ble_eq_true rfl) (Or.inl rfl) rfl rfl ?_)))
        refine w_lv (w_post (ih _ (by omega) (by rw [q_add, q_nI, q_ofI]; omega)) (fun r hr => ?_)) rfl ⟨rfl, rfl, rfl, rfl, trivial⟩
        rw [hr]
        show _ = (Sum.inl (some (Value.int (if decide (c.qm n = k ∧ d.toInt ≤ (c.qu n).toInt) = true then nI n else _))), _)
        rw [if_neg (by rw [decide_eq_true_eq]; exact fun z => h6 z.1)]
      · have h6 : c.qm n = k := Decidable.not_not.mp h5
        (repeat (first | refine w_iadd1 rfl ?_ | refine w_isub1 rfl ?_ | refine w_iinc1 rfl rfl ?_ | refine w_s rfl rfl ?_ | refine w_get rfl rfl rfl rfl ?_ | refine w_nnl rfl ?_ | refine w_nnlR rfl ?_ | refine w_nul rfl ?_ | refine w_nulR rfl ?_ | refine w_ldc rfl rfl ?_ | refine w_ldc2 rfl rfl ?_ | refine w_put rfl rfl rfl (Nat.le_of_ble_eq_true rfl) (Or.inl rfl) rfl rfl ?_))
        refine w_la rfl rfl rfl (by omega) (by decide) ?_
        (repeat (first | refine w_iadd1 rfl ?_ | refine w_isub1 rfl ?_ | refine w_iinc1 rfl rfl ?_ | refine w_s rfl rfl ?_ | refine w_get rfl rfl rfl rfl ?_ | refine w_nnl rfl ?_ | refine w_nnlR rfl ?_ | refine w_nul rfl ?_ | refine w_nulR rfl ?_ | refine w_ldc rfl rfl ?_ | refine w_ldc2 rfl rfl ?_ | refine w_put rfl rfl rfl (Nat.le_of_ble_eq_true rfl) (Or.inl rfl) rfl rfl ?_))
        refine w_if1 rfl (fun h7 => ?_) (fun h7 => ?_)
        · have h8 := c_Llt.mp h7
          (repeat ((fail_if_success (show ax_wp _ _ _ 8 _ _ _)); (first | refine w_iadd1 rfl ?_ | refine w_isub1 rfl ?_ | refine w_iinc1 rfl rfl ?_ | refine w_s rfl rfl ?_ | refine w_get rfl rfl rfl rfl ?_ | refine w_nnl rfl ?_ | refine w_nnlR rfl ?_ | refine w_nul rfl ?_ | refine w_nulR rfl ?_ | refine w_ldc rfl rfl ?_ | refine w_ldc2 rfl rfl ?_ | refine w_put rfl rfl rfl (Nat.le_of_ble_eq_true rfl) (Or.inl rfl) rfl rfl ?_)))
          refine w_lv (w_post (ih _ (by omega) (by rw [q_add, q_nI, q_ofI]; omega)) (fun r hr => ?_)) rfl ⟨rfl, rfl, rfl, rfl, trivial⟩
          rw [hr]
          show _ = (Sum.inl (some (Value.int (if decide (c.qm n = k ∧ d.toInt ≤ (c.qu n).toInt) = true then nI n else _))), _)
          rw [if_neg (by rw [decide_eq_true_eq]; omega)]
        · have h8 : ¬ (c.qu n).toInt < d.toInt := fun z => h7 (c_Llt.mpr z)
          (repeat (first | refine w_iadd1 rfl ?_ | refine w_isub1 rfl ?_ | refine w_iinc1 rfl rfl ?_ | refine w_s rfl rfl ?_ | refine w_get rfl rfl rfl rfl ?_ | refine w_nnl rfl ?_ | refine w_nnlR rfl ?_ | refine w_nul rfl ?_ | refine w_nulR rfl ?_ | refine w_ldc rfl rfl ?_ | refine w_ldc2 rfl rfl ?_ | refine w_put rfl rfl rfl (Nat.le_of_ble_eq_true rfl) (Or.inl rfl) rfl rfl ?_))
          (refine w_iret rfl rfl rfl ?_)
          show _ = (Sum.inl (some (Value.int (if decide (c.qm n = k ∧ d.toInt ≤ (c.qu n).toInt) = true then nI n else _))), _)
          rw [if_pos (by rw [decide_eq_true_eq]; exact ⟨h6, by omega⟩)]
  (refine ax_run_T (ax_T_of M_Qu_latest rfl (Nat.le_of_ble_eq_true rfl) ?_))
  (repeat ((fail_if_success (show ax_wp _ _ _ 8 _ _ _)); (first | refine w_iadd1 rfl ?_ | refine w_isub1 rfl ?_ | refine w_iinc1 rfl rfl ?_ | refine w_s rfl rfl ?_ | refine w_get rfl rfl rfl rfl ?_ | refine w_nnl rfl ?_ | refine w_nnlR rfl ?_ | refine w_nul rfl ?_ | refine w_nulR rfl ?_ | refine w_ldc rfl rfl ?_ | refine w_ldc2 rfl rfl ?_ | refine w_put rfl rfl rfl (Nat.le_of_ble_eq_true rfl) (Or.inl rfl) rfl rfl ?_)))
  exact w_lv (lp c.qn (nI c.qn - Int32.ofInt 1) (Nat.le_refl _) (by rw [q_sub, q_nI, q_ofI]; omega)) rfl ⟨rfl, rfl, rfl, rfl, trivial⟩
end CH
end
section
section CI
variable {L : Nat} {xs : Nat → Int32} {c : ax_St} {m : ax_Mo} {o : Nat → Int64} {pool : List (Option ax_C)} {u : Nat} {h : ax_H}
theorem r_offerAt0 (hq : c.qn ≤ 10) (k : Int32) (hk : k.toInt < 0) : ax_run m_Qu_offerAt [.ref 14, .int k] (ax_hp L xs c m o pool, u) (.inl (some .null), (ax_hp L xs c m o pool, u)) := by
  (refine ax_run_T (ax_T_of M_Qu_offerAt rfl (Nat.le_of_ble_eq_true rfl) ?_))
  (repeat' (first | refine w_iadd1 rfl ?_ | refine w_isub1 rfl ?_ | refine w_iinc1 rfl rfl ?_ | refine w_s rfl rfl ?_ | refine w_get rfl rfl rfl rfl ?_ | refine w_nnl rfl ?_ | refine w_nnlR rfl ?_ | refine w_nul rfl ?_ | refine w_nulR rfl ?_ | refine w_ldc rfl rfl ?_ | refine w_ldc2 rfl rfl ?_ | refine w_put rfl rfl rfl (Nat.le_of_ble_eq_true rfl) (Or.inl rfl) rfl rfl ?_ | ((first | refine w_if2 rfl (fun _ => ?_) (fun _ => ?_) | refine w_if1 rfl (fun _ => ?_) (fun _ => ?_)) <;> try (exfalso; (((try simp only [c_eq0, c_ne0, c_Llt, c_Lle, c_Lgt, c_Lge, c_Leq, c_Lne] at *); try simp only [ax_cnd, vp_in_iff, Int32.lt_iff_toInt_lt, Int32.le_iff_toInt_le, Int64.lt_iff_toInt_lt, Int64.le_iff_toInt_le, q_eq, q_eqL, q_lg, q_nI, q_add, q_sub, q_mul, q_neg, q_addL, q_subL, q_mulL, q_negL, q_i2l, q_l2i, q_b8, q_b16, q_ofI, q_lit, q_ofNL, q_litL, ne_eq, gt_iff_lt, ge_iff_le] at *) <;> omega); done))))
  exact w_aret rfl rfl rfl rfl
theorem r_offerAt1 (hq : c.qn ≤ 10) (k i : Nat) (hk : k < c.qn) (hi : c.qo k = some (i + 40)) : ax_run m_Qu_offerAt [.ref 14, .int (nI k)] (ax_hp L xs c m o pool, u) (.inl (some (.ref (i + 40))), (ax_hp L xs c m o pool, u)) := by
  (refine ax_run_T (ax_T_of M_Qu_offerAt rfl (Nat.le_of_ble_eq_true rfl) ?_))
  (repeat' (first | refine w_iadd1 rfl ?_ | refine w_isub1 rfl ?_ | refine w_iinc1 rfl rfl ?_ | refine w_s rfl rfl ?_ | refine w_get rfl rfl rfl rfl ?_ | refine w_nnl rfl ?_ | refine w_nnlR rfl ?_ | refine w_nul rfl ?_ | refine w_nulR rfl ?_ | refine w_ldc rfl rfl ?_ | refine w_ldc2 rfl rfl ?_ | refine w_put rfl rfl rfl (Nat.le_of_ble_eq_true rfl) (Or.inl rfl) rfl rfl ?_ | ((first | refine w_if2 rfl (fun _ => ?_) (fun _ => ?_) | refine w_if1 rfl (fun _ => ?_) (fun _ => ?_)) <;> try (exfalso; (((try simp only [c_eq0, c_ne0, c_Llt, c_Lle, c_Lgt, c_Lge, c_Leq, c_Lne] at *); try simp only [ax_cnd, vp_in_iff, Int32.lt_iff_toInt_lt, Int32.le_iff_toInt_le, Int64.lt_iff_toInt_lt, Int64.le_iff_toInt_le, q_eq, q_eqL, q_lg, q_nI, q_add, q_sub, q_mul, q_neg, q_addL, q_subL, q_mulL, q_negL, q_i2l, q_l2i, q_b8, q_b16, q_ofI, q_lit, q_ofNL, q_litL, ne_eq, gt_iff_lt, ge_iff_le] at *) <;> omega); done))))
  refine w_aa rfl rfl (Or.inl rfl) rfl (by omega) (by decide) ?_
  rw [hi]
  exact w_aret rfl rfl rfl rfl
def ax_row (f : Nat → Int32) (r : Nat) (k cl q dy : Int32) (p : Int64) (l : Int32) : Nat → Int32 :=
  upd (upd (upd (upd (upd (upd (upd f r k) (r + 1) cl) (r + 2) q) (r + 3) dy) (r + 4) (p / 1000).toInt32) (r + 5) (p - p / 1000 * 1000).toInt32) (r + 6) l
theorem r_Or_add0 (k cl q dy : Int32) (p : Int64) (l : Int32) (hn : c.on = 20) : ax_run m_Or_add [.ref 18, .int k, .int cl, .int q, .int dy, .long p, .int l] (ax_hp L xs c m o pool, u) (.inl (some (.int (-1))), (ax_hp L xs c m o pool, u)) := by
  (refine ax_run_T (ax_T_of M_Or_add rfl (Nat.le_of_ble_eq_true rfl) ?_))
  (repeat' (first | refine w_iadd1 rfl ?_ | refine w_isub1 rfl ?_ | refine w_iinc1 rfl rfl ?_ | refine w_s rfl rfl ?_ | refine w_get rfl rfl rfl rfl ?_ | refine w_nnl rfl ?_ | refine w_nnlR rfl ?_ | refine w_nul rfl ?_ | refine w_nulR rfl ?_ | refine w_ldc rfl rfl ?_ | refine w_ldc2 rfl rfl ?_ | refine w_put rfl rfl rfl (Nat.le_of_ble_eq_true rfl) (Or.inl rfl) rfl rfl ?_ | ((first | refine w_if2 rfl (fun _ => ?_) (fun _ => ?_) | refine w_if1 rfl (fun _ => ?_) (fun _ => ?_)) <;> try (exfalso; (((try simp only [c_eq0, c_ne0, c_Llt, c_Lle, c_Lgt, c_Lge, c_Leq, c_Lne] at *); try simp only [ax_cnd, vp_in_iff, Int32.lt_iff_toInt_lt, Int32.le_iff_toInt_le, Int64.lt_iff_toInt_lt, Int64.le_iff_toInt_le, q_eq, q_eqL, q_lg, q_nI, q_add, q_sub, q_mul, q_neg, q_addL, q_subL, q_mulL, q_negL, q_i2l, q_l2i, q_b8, q_b16, q_ofI, q_lit, q_ofNL, q_litL, ne_eq, gt_iff_lt, ge_iff_le] at *) <;> omega); done))))
  (refine w_iret rfl rfl rfl ?_)
  rfl
theorem r_Or_add1 (k cl q dy : Int32) (p : Int64) (l : Int32) (hn : c.on < 20) : ax_run m_Or_add [.ref 18, .int k, .int cl, .int q, .int dy, .long p, .int l] (ax_hp L xs c m o pool, u) (.inl (some (.int (nI c.on))), (ax_hp L xs (ax_St.u_on (ax_St.u_parts c (ax_row c.parts (7 * c.on) k cl q dy p l)) (c.on + 1)) m o pool, u)) := by
  (refine ax_run_T (ax_T_of M_Or_add rfl (Nat.le_of_ble_eq_true rfl) ?_))
  (repeat ((fail_if_success (show ax_wp _ _ _ 6 _ _ _)); (first | refine w_iadd1 rfl ?_ | refine w_isub1 rfl ?_ | refine w_iinc1 rfl rfl ?_ | refine w_s rfl rfl ?_ | refine w_get rfl rfl rfl rfl ?_ | refine w_nnl rfl ?_ | refine w_nnlR rfl ?_ | refine w_nul rfl ?_ | refine w_nulR rfl ?_ | refine w_ldc rfl rfl ?_ | refine w_ldc2 rfl rfl ?_ | refine w_put rfl rfl rfl (Nat.le_of_ble_eq_true rfl) (Or.inl rfl) rfl rfl ?_)))
  ((first | refine w_if2 rfl (fun _ => ?_) (fun _ => ?_) | refine w_if1 rfl (fun _ => ?_) (fun _ => ?_)) <;> try (exfalso; (((try simp only [c_eq0, c_ne0, c_Llt, c_Lle, c_Lgt, c_Lge, c_Leq, c_Lne] at *); try simp only [ax_cnd, vp_in_iff, Int32.lt_iff_toInt_lt, Int32.le_iff_toInt_le, Int64.lt_iff_toInt_lt, Int64.le_iff_toInt_le, q_eq, q_eqL, q_lg, q_nI, q_add, q_sub, q_mul, q_neg, q_addL, q_subL, q_mulL, q_negL, q_i2l, q_l2i, q_b8, q_b16, q_ofI, q_lit, q_ofNL, q_litL, ne_eq, gt_iff_lt, ge_iff_le] at *) <;> omega); done))
  (repeat ((fail_if_success (show ax_wp _ _ _ 18 _ _ _)); (first | refine w_iadd1 rfl ?_ | refine w_isub1 rfl ?_ | refine w_iinc1 rfl rfl ?_ | refine w_s rfl rfl ?_ | refine w_get rfl rfl rfl rfl ?_ | refine w_nnl rfl ?_ | refine w_nnlR rfl ?_ | refine w_nul rfl ?_ | refine w_nulR rfl ?_ | refine w_ldc rfl rfl ?_ | refine w_ldc2 rfl rfl ?_ | refine w_put rfl rfl rfl (Nat.le_of_ble_eq_true rfl) (Or.inl rfl) rfl rfl ?_)))
  refine w_eqI (y := nI (7 * c.on)) (by (((try simp only [c_eq0, c_ne0, c_Llt, c_Lle, c_Lgt, c_Lge, c_Leq, c_Lne] at *); try simp only [ax_cnd, vp_in_iff, Int32.lt_iff_toInt_lt, Int32.le_iff_toInt_le, Int64.lt_iff_toInt_lt, Int64.le_iff_toInt_le, q_eq, q_eqL, q_lg, q_nI, q_add, q_sub, q_mul, q_neg, q_addL, q_subL, q_mulL, q_negL, q_i2l, q_l2i, q_b8, q_b16, q_ofI, q_lit, q_ofNL, q_litL, ne_eq, gt_iff_lt, ge_iff_le] at *) <;> omega)) ?_
  (repeat (first | refine w_iadd1 rfl ?_ | refine w_isub1 rfl ?_ | refine w_iinc1 rfl rfl ?_ | refine w_s rfl rfl ?_ | refine w_get rfl rfl rfl rfl ?_ | refine w_nnl rfl ?_ | refine w_nnlR rfl ?_ | refine w_nul rfl ?_ | refine w_nulR rfl ?_ | refine w_ldc rfl rfl ?_ | refine w_ldc2 rfl rfl ?_ | refine w_put rfl rfl rfl (Nat.le_of_ble_eq_true rfl) (Or.inl rfl) rfl rfl ?_))
  refine w_ias rfl rfl rfl (by omega) (by decide) ?_
  (repeat (first | refine w_iadd1 rfl ?_ | refine w_isub1 rfl ?_ | refine w_iinc1 rfl rfl ?_ | refine w_s rfl rfl ?_ | refine w_get rfl rfl rfl rfl ?_ | refine w_nnl rfl ?_ | refine w_nnlR rfl ?_ | refine w_nul rfl ?_ | refine w_nulR rfl ?_ | refine w_ldc rfl rfl ?_ | refine w_ldc2 rfl rfl ?_ | refine w_put rfl rfl rfl (Nat.le_of_ble_eq_true rfl) (Or.inl rfl) rfl rfl ?_))
  refine w_ias (j := 7 * c.on + 1) rfl rfl rfl (by omega) (by decide) ?_
  (repeat (first | refine w_iadd1 rfl ?_ | refine w_isub1 rfl ?_ | refine w_iinc1 rfl rfl ?_ | refine w_s rfl rfl ?_ | refine w_get rfl rfl rfl rfl ?_ | refine w_nnl rfl ?_ | refine w_nnlR rfl ?_ | refine w_nul rfl ?_ | refine w_nulR rfl ?_ | refine w_ldc rfl rfl ?_ | refine w_ldc2 rfl rfl ?_ | refine w_put rfl rfl rfl (Nat.le_of_ble_eq_true rfl) (Or.inl rfl) rfl rfl ?_))
  refine w_ias (j := 7 * c.on + 2) rfl rfl (by (((try simp only [c_eq0, c_ne0, c_Llt, c_Lle, c_Lgt, c_Lge, c_Leq, c_Lne] at *); try simp only [ax_cnd, vp_in_iff, Int32.lt_iff_toInt_lt, Int32.le_iff_toInt_le, Int64.lt_iff_toInt_lt, Int64.le_iff_toInt_le, q_eq, q_eqL, q_lg, q_nI, q_add, q_sub, q_mul, q_neg, q_addL, q_subL, q_mulL, q_negL, q_i2l, q_l2i, q_b8, q_b16, q_ofI, q_lit, q_ofNL, q_litL, ne_eq, gt_iff_lt, ge_iff_le] at *) <;> omega)) (by omega) (by decide) ?_
  (repeat (first | refine w_iadd1 rfl ?_ | refine w_isub1 rfl ?_ | refine w_iinc1 rfl rfl ?_ | refine w_s rfl rfl ?_ | refine w_get rfl rfl rfl rfl ?_ | refine w_nnl rfl ?_ | refine w_nnlR rfl ?_ | refine w_nul rfl ?_ | refine w_nulR rfl ?_ | refine w_ldc rfl rfl ?_ | refine w_ldc2 rfl rfl ?_ | refine w_put rfl rfl rfl (Nat.le_of_ble_eq_true rfl) (Or.inl rfl) rfl rfl ?_))
  refine w_ias (j := 7 * c.on + 3) rfl rfl (by (((try simp only [c_eq0, c_ne0, c_Llt, c_Lle, c_Lgt, c_Lge, c_Leq, c_Lne] at *); try simp only [ax_cnd, vp_in_iff, Int32.lt_iff_toInt_lt, Int32.le_iff_toInt_le, Int64.lt_iff_toInt_lt, Int64.le_iff_toInt_le, q_eq, q_eqL, q_lg, q_nI, q_add, q_sub, q_mul, q_neg, q_addL, q_subL, q_mulL, q_negL, q_i2l, q_l2i, q_b8, q_b16, q_ofI, q_lit, q_ofNL, q_litL, ne_eq, gt_iff_lt, ge_iff_le] at *) <;> omega)) (by omega) (by decide) ?_
  (repeat (first | refine w_iadd1 rfl ?_ | refine w_isub1 rfl ?_ | refine w_iinc1 rfl rfl ?_ | refine w_s rfl rfl ?_ | refine w_get rfl rfl rfl rfl ?_ | refine w_nnl rfl ?_ | refine w_nnlR rfl ?_ | refine w_nul rfl ?_ | refine w_nulR rfl ?_ | refine w_ldc rfl rfl ?_ | refine w_ldc2 rfl rfl ?_ | refine w_put rfl rfl rfl (Nat.le_of_ble_eq_true rfl) (Or.inl rfl) rfl rfl ?_))
  refine w_ldiv rfl (by decide) ?_
  (repeat (first | refine w_iadd1 rfl ?_ | refine w_isub1 rfl ?_ | refine w_iinc1 rfl rfl ?_ | refine w_s rfl rfl ?_ | refine w_get rfl rfl rfl rfl ?_ | refine w_nnl rfl ?_ | refine w_nnlR rfl ?_ | refine w_nul rfl ?_ | refine w_nulR rfl ?_ | refine w_ldc rfl rfl ?_ | refine w_ldc2 rfl rfl ?_ | refine w_put rfl rfl rfl (Nat.le_of_ble_eq_true rfl) (Or.inl rfl) rfl rfl ?_))
  refine w_ias (j := 7 * c.on + 4) rfl rfl (by (((try simp only [c_eq0, c_ne0, c_Llt, c_Lle, c_Lgt, c_Lge, c_Leq, c_Lne] at *); try simp only [ax_cnd, vp_in_iff, Int32.lt_iff_toInt_lt, Int32.le_iff_toInt_le, Int64.lt_iff_toInt_lt, Int64.le_iff_toInt_le, q_eq, q_eqL, q_lg, q_nI, q_add, q_sub, q_mul, q_neg, q_addL, q_subL, q_mulL, q_negL, q_i2l, q_l2i, q_b8, q_b16, q_ofI, q_lit, q_ofNL, q_litL, ne_eq, gt_iff_lt, ge_iff_le] at *) <;> omega)) (by omega) (by decide) ?_
  (repeat (first | refine w_iadd1 rfl ?_ | refine w_isub1 rfl ?_ | refine w_iinc1 rfl rfl ?_ | refine w_s rfl rfl ?_ | refine w_get rfl rfl rfl rfl ?_ | refine w_nnl rfl ?_ | refine w_nnlR rfl ?_ | refine w_nul rfl ?_ | refine w_nulR rfl ?_ | refine w_ldc rfl rfl ?_ | refine w_ldc2 rfl rfl ?_ | refine w_put rfl rfl rfl (Nat.le_of_ble_eq_true rfl) (Or.inl rfl) rfl rfl ?_))
  refine w_lrem rfl (by decide) ?_
  (repeat (first | refine w_iadd1 rfl ?_ | refine w_isub1 rfl ?_ | refine w_iinc1 rfl rfl ?_ | refine w_s rfl rfl ?_ | refine w_get rfl rfl rfl rfl ?_ | refine w_nnl rfl ?_ | refine w_nnlR rfl ?_ | refine w_nul rfl ?_ | refine w_nulR rfl ?_ | refine w_ldc rfl rfl ?_ | refine w_ldc2 rfl rfl ?_ | refine w_put rfl rfl rfl (Nat.le_of_ble_eq_true rfl) (Or.inl rfl) rfl rfl ?_))
  refine w_ias (j := 7 * c.on + 5) rfl rfl (by (((try simp only [c_eq0, c_ne0, c_Llt, c_Lle, c_Lgt, c_Lge, c_Leq, c_Lne] at *); try simp only [ax_cnd, vp_in_iff, Int32.lt_iff_toInt_lt, Int32.le_iff_toInt_le, Int64.lt_iff_toInt_lt, Int64.le_iff_toInt_le, q_eq, q_eqL, q_lg, q_nI, q_add, q_sub, q_mul, q_neg, q_addL, q_subL, q_mulL, q_negL, q_i2l, q_l2i, q_b8, q_b16, q_ofI, q_lit, q_ofNL, q_litL, ne_eq, gt_iff_lt, ge_iff_le] at *) <;> omega)) (by omega) (by decide) ?_
  (repeat (first | refine w_iadd1 rfl ?_ | refine w_isub1 rfl ?_ | refine w_iinc1 rfl rfl ?_ | refine w_s rfl rfl ?_ | refine w_get rfl rfl rfl rfl ?_ | refine w_nnl rfl ?_ | refine w_nnlR rfl ?_ | refine w_nul rfl ?_ | refine w_nulR rfl ?_ | refine w_ldc rfl rfl ?_ | refine w_ldc2 rfl rfl ?_ | refine w_put rfl rfl rfl (Nat.le_of_ble_eq_true rfl) (Or.inl rfl) rfl rfl ?_))
  refine w_ias (j := 7 * c.on + 6) rfl rfl (by (((try simp only [c_eq0, c_ne0, c_Llt, c_Lle, c_Lgt, c_Lge, c_Leq, c_Lne] at *); try simp only [ax_cnd, vp_in_iff, Int32.lt_iff_toInt_lt, Int32.le_iff_toInt_le, Int64.lt_iff_toInt_lt, Int64.le_iff_toInt_le, q_eq, q_eqL, q_lg, q_nI, q_add, q_sub, q_mul, q_neg, q_addL, q_subL, q_mulL, q_negL, q_i2l, q_l2i, q_b8, q_b16, q_ofI, q_lit, q_ofNL, q_litL, ne_eq, gt_iff_lt, ge_iff_le] at *) <;> omega)) (by omega) (by decide) ?_
  (repeat (first | refine w_iadd1 rfl ?_ | refine w_isub1 rfl ?_ | refine w_iinc1 rfl rfl ?_ | refine w_s rfl rfl ?_ | refine w_get rfl rfl rfl rfl ?_ | refine w_nnl rfl ?_ | refine w_nnlR rfl ?_ | refine w_nul rfl ?_ | refine w_nulR rfl ?_ | refine w_ldc rfl rfl ?_ | refine w_ldc2 rfl rfl ?_ | refine w_put rfl rfl rfl (Nat.le_of_ble_eq_true rfl) (Or.inl rfl) rfl rfl ?_))
  (refine w_iret rfl rfl rfl ?_)
  rfl
def ax_ofr (c : ax_St) (Fs Qs : Nat → ax_Of) (k : Nat) (l : Int32) : ax_Of := if l.toInt < 0 then Fs k else Qs l.toInt.toNat
def sp_order2 (c : ax_St) (k : Int32) (q : Int64) (l : Int32) (F : ax_Of) : ax_SR :=
  if ax_least c F = -1 then .inl (.int (-1), c) else if c.on = 20 then .inl (.int (-1), c)
  else .inl (.int (nI c.on), (ax_St.u_on (ax_St.u_parts c (ax_row c.parts (7 * c.on) k (ax_least c F) q.toInt32 (F.g (ax_least c F).toInt.toNat).dy (Int64.ofInt (ax_pri (F.g (ax_least c F).toInt.toNat) q)) l)) (c.on + 1)))
def sp_order (c : ax_St) (Fs Qs : Nat → ax_Of) (k : Int32) (q d : Int64) : ax_SR :=
  if ¬ (0 ≤ k.toInt ∧ k.toInt < c.told) then .inr 0 else if ¬ (1 ≤ q.toInt ∧ q.toInt ≤ 1000000) then .inr 1
  else sp_order2 c k q (ax_latest c k d) (ax_ofr c Fs Qs k.toInt.toNat (ax_latest c k d))
theorem r_order {Fs Qs : Nat → ax_Of} (hF : OffOk c pool Fs) (hQ : QuOk c pool Qs) (hb : BoardOk c) (ho : c.on ≤ 20) (k : Int32) (q d : Int64) : ax_run m_ML_order [.ref 1, .int k, .long q, .long d] (ax_hp L xs c m o pool, u) (ax_out L xs m o pool u c (sp_order c Fs Qs k q d)) := by
  have hn := hF.n
  have hqn := hQ.n
  unfold sp_order
  split
  · (refine ax_run_T (ax_T_of M_ML_order rfl (Nat.le_of_ble_eq_true rfl) ?_))
    (repeat (first | refine w_iadd1 rfl ?_ | refine w_isub1 rfl ?_ | refine w_iinc1 rfl rfl ?_ | refine w_s rfl rfl ?_ | refine w_get rfl rfl rfl rfl ?_ | refine w_nnl rfl ?_ | refine w_nnlR rfl ?_ | refine w_nul rfl ?_ | refine w_nulR rfl ?_ | refine w_ldc rfl rfl ?_ | refine w_ldc2 rfl rfl ?_ | refine w_put rfl rfl rfl (Nat.le_of_ble_eq_true rfl) (Or.inl rfl) rfl rfl ?_))
    exact w_cvx rfl rfl rfl rfl (Nat.le_of_ble_eq_true rfl) (Nat.le_of_ble_eq_true rfl) (by decide) rfl (r_offerOf0 hF k (by assumption)) rfl
  · rename_i h0
    obtain ⟨n, rfl, hn1, hn2⟩ := q_nat (x := k) (by omega)
    have hnn : (nI n).toInt.toNat = n := by rw [← hn1]; rfl
    obtain ⟨i, e1, e2, e3⟩ := hF.at_ n (by omega)
    split
    · (refine ax_run_T (ax_T_of M_ML_order rfl (Nat.le_of_ble_eq_true rfl) ?_))
      (repeat (first | refine w_iadd1 rfl ?_ | refine w_isub1 rfl ?_ | refine w_iinc1 rfl rfl ?_ | refine w_s rfl rfl ?_ | refine w_get rfl rfl rfl rfl ?_ | refine w_nnl rfl ?_ | refine w_nnlR rfl ?_ | refine w_nul rfl ?_ | refine w_nulR rfl ?_ | refine w_ldc rfl rfl ?_ | refine w_ldc2 rfl rfl ?_ | refine w_put rfl rfl rfl (Nat.le_of_ble_eq_true rfl) (Or.inl rfl) rfl rfl ?_))
      (refine w_cv rfl rfl rfl rfl (by exact Nat.le_of_ble_eq_true rfl) (by exact Nat.le_of_ble_eq_true rfl) (r_offerOf1 (by omega) e1) ?_; dsimp only [Option.toList, List.drop, List.cons_append, List.nil_append])
      (repeat (first | refine w_iadd1 rfl ?_ | refine w_isub1 rfl ?_ | refine w_iinc1 rfl rfl ?_ | refine w_s rfl rfl ?_ | refine w_get rfl rfl rfl rfl ?_ | refine w_nnl rfl ?_ | refine w_nnlR rfl ?_ | refine w_nul rfl ?_ | refine w_nulR rfl ?_ | refine w_ldc rfl rfl ?_ | refine w_ldc2 rfl rfl ?_ | refine w_put rfl rfl rfl (Nat.le_of_ble_eq_true rfl) (Or.inl rfl) rfl rfl ?_))
      exact w_csx rfl rfl (Nat.le_of_ble_eq_true rfl) (Nat.le_of_ble_eq_true rfl) (by decide) rfl (r_checkQ0 q (by assumption)) rfl
    · rename_i h9
      have tail : ∀ (F : ax_Of) (f : Nat) (l : Int32), OfferAt pool f F → OfferOk F → ax_wp ax_run M_ML_order (fun r' => r' = ax_out L xs m o pool u c (sp_order2 c (nI n) q l F)) 48 [(0, .ref 1), (1, .int (nI n)), (2, .long q), (7, .int l), (9, .ref (f + 40))] [] (ax_hp L xs c m o pool, u) := by
        intro F f l hf hok
        obtain ⟨a, gf, z1, -⟩ := id hf
        (repeat (first | refine w_iadd1 rfl ?_ | refine w_isub1 rfl ?_ | refine w_iinc1 rfl rfl ?_ | refine w_s rfl rfl ?_ | refine w_get rfl rfl rfl rfl ?_ | refine w_nnl rfl ?_ | refine w_nnlR rfl ?_ | refine w_nul rfl ?_ | refine w_nulR rfl ?_ | refine w_ldc rfl rfl ?_ | refine w_ldc2 rfl rfl ?_ | refine w_put rfl rfl rfl (Nat.le_of_ble_eq_true rfl) (Or.inl rfl) rfl rfl ?_))
        refine w_cv rfl rfl rfl (hp_at z1) (Nat.le_of_ble_eq_true rfl) (Nat.le_of_ble_eq_true rfl) (r_leastFor hf hok hb) ?_
        dsimp only [Option.toList, List.drop, List.cons_append, List.nil_append]
        (repeat (first | refine w_iadd1 rfl ?_ | refine w_isub1 rfl ?_ | refine w_iinc1 rfl rfl ?_ | refine w_s rfl rfl ?_ | refine w_get rfl rfl rfl rfl ?_ | refine w_nnl rfl ?_ | refine w_nnlR rfl ?_ | refine w_nul rfl ?_ | refine w_nulR rfl ?_ | refine w_ldc rfl rfl ?_ | refine w_ldc2 rfl rfl ?_ | refine w_put rfl rfl rfl (Nat.le_of_ble_eq_true rfl) (Or.inl rfl) rfl rfl ?_))
        rcases ax_least_r (c := c) hok.n4 with hl | ⟨b, hb1, hl⟩
        · rw [hl]
          refine w_cv rfl rfl rfl (hp_at z1) (Nat.le_of_ble_eq_true rfl) (Nat.le_of_ble_eq_true rfl) (r_gradeAt0 hf hok (-1) (fun z => absurd z.1 (by decide))) ?_
          dsimp only [Option.toList, List.drop, List.cons_append, List.nil_append]
          (repeat (first | refine w_iadd1 rfl ?_ | refine w_isub1 rfl ?_ | refine w_iinc1 rfl rfl ?_ | refine w_s rfl rfl ?_ | refine w_get rfl rfl rfl rfl ?_ | refine w_nnl rfl ?_ | refine w_nnlR rfl ?_ | refine w_nul rfl ?_ | refine w_nulR rfl ?_ | refine w_ldc rfl rfl ?_ | refine w_ldc2 rfl rfl ?_ | refine w_put rfl rfl rfl (Nat.le_of_ble_eq_true rfl) (Or.inl rfl) rfl rfl ?_))
          (refine w_iret rfl rfl rfl ?_)
          unfold sp_order2
          rw [if_pos hl]
          rfl
        · have hn4 := hok.n4
          have hbb : (nI b).toInt.toNat = b := by rw [q_nI' (by omega)]; rfl
          obtain ⟨g, g1, g2⟩ := r_gradeAt1 (L := L) (xs := xs) (c := c) (m := m) (o := o) (u := u) hf hok b hb1
          rw [hl]
          refine w_cv rfl rfl rfl (hp_at z1) (Nat.le_of_ble_eq_true rfl) (Nat.le_of_ble_eq_true rfl) g2 ?_
          dsimp only [Option.toList, List.drop, List.cons_append, List.nil_append]
          (repeat (first | refine w_iadd1 rfl ?_ | refine w_isub1 rfl ?_ | refine w_iinc1 rfl rfl ?_ | refine w_s rfl rfl ?_ | refine w_get rfl rfl rfl rfl ?_ | refine w_nnl rfl ?_ | refine w_nnlR rfl ?_ | refine w_nul rfl ?_ | refine w_nulR rfl ?_ | refine w_ldc rfl rfl ?_ | refine w_ldc2 rfl rfl ?_ | refine w_put rfl rfl rfl (Nat.le_of_ble_eq_true rfl) (Or.inl rfl) rfl rfl ?_))
          obtain ⟨ga, gb, gd, can, y1, -⟩ := id g1
          refine w_get rfl rfl (hp_at y1) rfl ?_
          (repeat (first | refine w_iadd1 rfl ?_ | refine w_isub1 rfl ?_ | refine w_iinc1 rfl rfl ?_ | refine w_s rfl rfl ?_ | refine w_get rfl rfl rfl rfl ?_ | refine w_nnl rfl ?_ | refine w_nnlR rfl ?_ | refine w_nul rfl ?_ | refine w_nulR rfl ?_ | refine w_ldc rfl rfl ?_ | refine w_ldc2 rfl rfl ?_ | refine w_put rfl rfl rfl (Nat.le_of_ble_eq_true rfl) (Or.inl rfl) rfl rfl ?_))
          refine w_cv rfl rfl rfl (hp_at y1) (Nat.le_of_ble_eq_true rfl) (Nat.le_of_ble_eq_true rfl) (r_priceOf g1 (hok.gs b hb1) q (by omega)) ?_
          dsimp only [Option.toList, List.drop, List.cons_append, List.nil_append]
          (repeat (first | refine w_iadd1 rfl ?_ | refine w_isub1 rfl ?_ | refine w_iinc1 rfl rfl ?_ | refine w_s rfl rfl ?_ | refine w_get rfl rfl rfl rfl ?_ | refine w_nnl rfl ?_ | refine w_nnlR rfl ?_ | refine w_nul rfl ?_ | refine w_nulR rfl ?_ | refine w_ldc rfl rfl ?_ | refine w_ldc2 rfl rfl ?_ | refine w_put rfl rfl rfl (Nat.le_of_ble_eq_true rfl) (Or.inl rfl) rfl rfl ?_))
          unfold sp_order2
          rw [if_neg (by rw [hl]; exact nI_ne (by omega)), hl, hbb]
          split
          · (refine w_cv rfl rfl rfl rfl (by exact Nat.le_of_ble_eq_true rfl) (by exact Nat.le_of_ble_eq_true rfl) (r_Or_add0 (nI n) (nI b) q.toInt32 (F.g b).dy (Int64.ofInt (ax_pri (F.g b) q)) l (by assumption)) ?_; dsimp only [Option.toList, List.drop, List.cons_append, List.nil_append])
            (refine w_iret rfl rfl rfl ?_)
            rfl
          · (refine w_cv rfl rfl rfl rfl (by exact Nat.le_of_ble_eq_true rfl) (by exact Nat.le_of_ble_eq_true rfl) (r_Or_add1 (nI n) (nI b) q.toInt32 (F.g b).dy (Int64.ofInt (ax_pri (F.g b) q)) l (by omega)) ?_; dsimp only [Option.toList, List.drop, List.cons_append, List.nil_append])
            (refine w_iret rfl rfl rfl ?_)
            rfl
      rw [hnn]
      (refine ax_run_T (ax_T_of M_ML_order rfl (Nat.le_of_ble_eq_true rfl) ?_))
      (repeat (first | refine w_iadd1 rfl ?_ | refine w_isub1 rfl ?_ | refine w_iinc1 rfl rfl ?_ | refine w_s rfl rfl ?_ | refine w_get rfl rfl rfl rfl ?_ | refine w_nnl rfl ?_ | refine w_nnlR rfl ?_ | refine w_nul rfl ?_ | refine w_nulR rfl ?_ | refine w_ldc rfl rfl ?_ | refine w_ldc2 rfl rfl ?_ | refine w_put rfl rfl rfl (Nat.le_of_ble_eq_true rfl) (Or.inl rfl) rfl rfl ?_))
      (refine w_cv rfl rfl rfl rfl (by exact Nat.le_of_ble_eq_true rfl) (by exact Nat.le_of_ble_eq_true rfl) (r_offerOf1 (by omega) e1) ?_; dsimp only [Option.toList, List.drop, List.cons_append, List.nil_append])
      (repeat (first | refine w_iadd1 rfl ?_ | refine w_isub1 rfl ?_ | refine w_iinc1 rfl rfl ?_ | refine w_s rfl rfl ?_ | refine w_get rfl rfl rfl rfl ?_ | refine w_nnl rfl ?_ | refine w_nnlR rfl ?_ | refine w_nul rfl ?_ | refine w_nulR rfl ?_ | refine w_ldc rfl rfl ?_ | refine w_ldc2 rfl rfl ?_ | refine w_put rfl rfl rfl (Nat.le_of_ble_eq_true rfl) (Or.inl rfl) rfl rfl ?_))
      (refine w_cs rfl rfl (by first | decide | exact Nat.le_of_ble_eq_true rfl) (by exact Nat.le_of_ble_eq_true rfl) (r_checkQ1 q (by omega)) ?_; dsimp only [Option.toList, List.drop, List.cons_append, List.nil_append])
      (repeat (first | refine w_iadd1 rfl ?_ | refine w_isub1 rfl ?_ | refine w_iinc1 rfl rfl ?_ | refine w_s rfl rfl ?_ | refine w_get rfl rfl rfl rfl ?_ | refine w_nnl rfl ?_ | refine w_nnlR rfl ?_ | refine w_nul rfl ?_ | refine w_nulR rfl ?_ | refine w_ldc rfl rfl ?_ | refine w_ldc2 rfl rfl ?_ | refine w_put rfl rfl rfl (Nat.le_of_ble_eq_true rfl) (Or.inl rfl) rfl rfl ?_))
      (refine w_cv rfl rfl rfl rfl (by exact Nat.le_of_ble_eq_true rfl) (by exact Nat.le_of_ble_eq_true rfl) (r_latest hqn (nI n) d) ?_; dsimp only [Option.toList, List.drop, List.cons_append, List.nil_append])
      (repeat (first | refine w_iadd1 rfl ?_ | refine w_isub1 rfl ?_ | refine w_iinc1 rfl rfl ?_ | refine w_s rfl rfl ?_ | refine w_get rfl rfl rfl rfl ?_ | refine w_nnl rfl ?_ | refine w_nnlR rfl ?_ | refine w_nul rfl ?_ | refine w_nulR rfl ?_ | refine w_ldc rfl rfl ?_ | refine w_ldc2 rfl rfl ?_ | refine w_put rfl rfl rfl (Nat.le_of_ble_eq_true rfl) (Or.inl rfl) rfl rfl ?_))
      rcases ax_lat_r (fun q => decide (c.qm q = nI n ∧ d.toInt ≤ (c.qu q).toInt)) c.qn (by omega) with hl | ⟨b, hb1, hl, -⟩
      · have hl' : ax_latest c (nI n) d = -1 := hl
        rw [hl']
        (refine w_cv rfl rfl rfl rfl (by exact Nat.le_of_ble_eq_true rfl) (by exact Nat.le_of_ble_eq_true rfl) (r_offerAt0 hqn (-1) (by decide)) ?_; dsimp only [Option.toList, List.drop, List.cons_append, List.nil_append])
        (repeat ((fail_if_success (show ax_wp _ _ _ 48 _ _ _)); (first | refine w_iadd1 rfl ?_ | refine w_isub1 rfl ?_ | refine w_iinc1 rfl rfl ?_ | refine w_s rfl rfl ?_ | refine w_get rfl rfl rfl rfl ?_ | refine w_nnl rfl ?_ | refine w_nnlR rfl ?_ | refine w_nul rfl ?_ | refine w_nulR rfl ?_ | refine w_ldc rfl rfl ?_ | refine w_ldc2 rfl rfl ?_ | refine w_put rfl rfl rfl (Nat.le_of_ble_eq_true rfl) (Or.inl rfl) rfl rfl ?_)))
        refine w_lv (tail (Fs n) i (-1) e2 e3) rfl ⟨rfl, rfl, rfl, rfl, rfl, trivial⟩
      · have hl' : ax_latest c (nI n) d = nI b := hl
        have hbb : (nI b).toInt.toNat = b := by rw [q_nI' (by omega)]; rfl
        obtain ⟨i2, f1, f2, f3⟩ := hQ.at_ b hb1
        rw [hl']
        (refine w_cv rfl rfl rfl rfl (by exact Nat.le_of_ble_eq_true rfl) (by exact Nat.le_of_ble_eq_true rfl) (r_offerAt1 hqn b i2 hb1 f1) ?_; dsimp only [Option.toList, List.drop, List.cons_append, List.nil_append])
        (repeat ((fail_if_success (show ax_wp _ _ _ 48 _ _ _)); (first | refine w_iadd1 rfl ?_ | refine w_isub1 rfl ?_ | refine w_iinc1 rfl rfl ?_ | refine w_s rfl rfl ?_ | refine w_get rfl rfl rfl rfl ?_ | refine w_nnl rfl ?_ | refine w_nnlR rfl ?_ | refine w_nul rfl ?_ | refine w_nulR rfl ?_ | refine w_ldc rfl rfl ?_ | refine w_ldc2 rfl rfl ?_ | refine w_put rfl rfl rfl (Nat.le_of_ble_eq_true rfl) (Or.inl rfl) rfl rfl ?_)))
        have e : ax_ofr c Fs Qs n (nI b) = Qs b := by
          unfold ax_ofr
          rw [if_neg (by rw [q_nI' (by omega)]; omega), hbb]
        rw [e]
        refine w_lv (tail (Qs b) i2 (nI b) f2 f3) rfl ⟨rfl, rfl, rfl, rfl, rfl, trivial⟩
/-- the best maker so far, and its price -/
def ax_bst (c : ax_St) (Fs : Nat → ax_Of) (q : Int64) : Nat → Int32 × Int64
  | 0 => (-1, 0)
  | k + 1 => if ax_least c (Fs k) = -1 then ax_bst c Fs q k
    else if (ax_bst c Fs q k).1 = -1 ∨ ax_pri ((Fs k).g (ax_least c (Fs k)).toInt.toNat) q < (ax_bst c Fs q k).2.toInt then (nI k, Int64.ofInt (ax_pri ((Fs k).g (ax_least c (Fs k)).toInt.toNat) q)) else ax_bst c Fs q k
def sp_best (c : ax_St) (Fs : Nat → ax_Of) (q : Int64) : ax_SR := if ¬ (1 ≤ q.toInt ∧ q.toInt ≤ 1000000) then .inr 1 else .inl (.int (ax_bst c Fs q c.told).1, c)
theorem ax_pri_b {G : ax_Gr} (hok : GradeOk G) {q : Int64} (hq : 1 ≤ q.toInt ∧ q.toInt ≤ 1000000) : 0 ≤ ax_pri G q ∧ ax_pri G q ≤ 1000000000000 := by
  have hs1 := hok.s1
  have hf0 := hok.fm 0 (by omega)
  have hpb : 1 ≤ ax_paid G q ∧ ax_paid G q ≤ 1000000 := by unfold ax_paid; split <;> omega
  have hj : ∀ n, 1 ≤ n → ax_jx (fun s => decide ((G.fr s).toInt ≤ ax_paid G q)) n < n := by
    intro n
    induction n with
    | zero => intro z; omega
    | succ n ihn =>
      intro _
      unfold ax_jx
      split
      · omega
      · by_cases hz : 1 ≤ n
        · have := ihn hz; omega
        · have : n = 0 := by omega
          subst this
          exact Nat.succ_pos 0
  have hc := hok.cm _ (hj _ hs1)
  unfold ax_pri
  generalize G.ce (ax_jx (fun s => decide ((G.fr s).toInt ≤ ax_paid G q)) G.st) = ce at hc
  have hm1 : ax_paid G q * ce.toInt ≤ 1000000 * 1000000 := Int.mul_le_mul (by omega) (by omega) (by omega) (by omega)
  have hm2 : 0 ≤ ax_paid G q * ce.toInt := Int.mul_nonneg (by omega) (by omega)
  omega
theorem r_best {Fs : Nat → ax_Of} (hF : OffOk c pool Fs) (hb : BoardOk c) (q : Int64) : ax_run m_ML_best [.ref 1, .long q] (ax_hp L xs c m o pool, u) (ax_out L xs m o pool u c (sp_best c Fs q)) := by
  have hn := hF.n
  unfold sp_best
  split
  · (refine ax_run_T (ax_T_of M_ML_best rfl (Nat.le_of_ble_eq_true rfl) ?_))
    (repeat (first | refine w_iadd1 rfl ?_ | refine w_isub1 rfl ?_ | refine w_iinc1 rfl rfl ?_ | refine w_s rfl rfl ?_ | refine w_get rfl rfl rfl rfl ?_ | refine w_nnl rfl ?_ | refine w_nnlR rfl ?_ | refine w_nul rfl ?_ | refine w_nulR rfl ?_ | refine w_ldc rfl rfl ?_ | refine w_ldc2 rfl rfl ?_ | refine w_put rfl rfl rfl (Nat.le_of_ble_eq_true rfl) (Or.inl rfl) rfl rfl ?_))
    exact w_csx rfl rfl (Nat.le_of_ble_eq_true rfl) (Nat.le_of_ble_eq_true rfl) (by decide) rfl (r_checkQ0 q (by assumption)) rfl
  · rename_i h9
    have l2 : ∀ (e k : Nat), k + e = 4 → c.told ≤ k → ax_wp ax_run M_ML_best (fun r' => r' = ax_out L xs m o pool u c (.inl (.int (ax_bst c Fs q c.told).1, c))) 12 [(0, .ref 1), (1, .long q), (3, .int (ax_bst c Fs q c.told).1), (4, .long (ax_bst c Fs q c.told).2), (6, .int (nI k))] [] (ax_hp L xs c m o pool, u) := by
      intro e
      induction e with
      | zero =>
        intro k hk hkt
        (repeat' (first | refine w_iadd1 rfl ?_ | refine w_isub1 rfl ?_ | refine w_iinc1 rfl rfl ?_ | refine w_s rfl rfl ?_ | refine w_get rfl rfl rfl rfl ?_ | refine w_nnl rfl ?_ | refine w_nnlR rfl ?_ | refine w_nul rfl ?_ | refine w_nulR rfl ?_ | refine w_ldc rfl rfl ?_ | refine w_ldc2 rfl rfl ?_ | refine w_put rfl rfl rfl (Nat.le_of_ble_eq_true rfl) (Or.inl rfl) rfl rfl ?_ | ((first | refine w_if2 rfl (fun _ => ?_) (fun _ => ?_) | refine w_if1 rfl (fun _ => ?_) (fun _ => ?_)) <;> try (exfalso; (((try simp only [c_eq0, c_ne0, c_Llt, c_Lle, c_Lgt, c_Lge, c_Leq, c_Lne] at *); try simp only [ax_cnd, vp_in_iff, Int32.lt_iff_toInt_lt, Int32.le_iff_toInt_le, Int64.lt_iff_toInt_lt, Int64.le_iff_toInt_le, q_eq, q_eqL, q_lg, q_nI, q_add, q_sub, q_mul, q_neg, q_addL, q_subL, q_mulL, q_negL, q_i2l, q_l2i, q_b8, q_b16, q_ofI, q_lit, q_ofNL, q_litL, ne_eq, gt_iff_lt, ge_iff_le] at *) <;> omega); done))))
        (refine w_iret rfl rfl rfl ?_)
        rfl
      | succ e ih =>
        intro k hk hkt
        (repeat' (first | refine w_iadd1 rfl ?_ | refine w_isub1 rfl ?_ | refine w_iinc1 rfl rfl ?_ | refine w_s rfl rfl ?_ | refine w_get rfl rfl rfl rfl ?_ | refine w_nnl rfl ?_ | refine w_nnlR rfl ?_ | refine w_nul rfl ?_ | refine w_nulR rfl ?_ | refine w_ldc rfl rfl ?_ | refine w_ldc2 rfl rfl ?_ | refine w_put rfl rfl rfl (Nat.le_of_ble_eq_true rfl) (Or.inl rfl) rfl rfl ?_ | ((first | refine w_if2 rfl (fun _ => ?_) (fun _ => ?_) | refine w_if1 rfl (fun _ => ?_) (fun _ => ?_)) <;> try (exfalso; (((try simp only [c_eq0, c_ne0, c_Llt, c_Lle, c_Lgt, c_Lge, c_Leq, c_Lne] at *); try simp only [ax_cnd, vp_in_iff, Int32.lt_iff_toInt_lt, Int32.le_iff_toInt_le, Int64.lt_iff_toInt_lt, Int64.le_iff_toInt_le, q_eq, q_eqL, q_lg, q_nI, q_add, q_sub, q_mul, q_neg, q_addL, q_subL, q_mulL, q_negL, q_i2l, q_l2i, q_b8, q_b16, q_ofI, q_lit, q_ofNL, q_litL, ne_eq, gt_iff_lt, ge_iff_le] at *) <;> omega); done))))
        refine w_aa rfl rfl (Or.inl rfl) rfl (by omega) (by decide) ?_
        rw [hF.no k hkt (by omega)]
        (repeat ((fail_if_success (show ax_wp _ _ _ 12 _ _ _)); (first | refine w_iadd1 rfl ?_ | refine w_isub1 rfl ?_ | refine w_iinc1 rfl rfl ?_ | refine w_s rfl rfl ?_ | refine w_get rfl rfl rfl rfl ?_ | refine w_nnl rfl ?_ | refine w_nnlR rfl ?_ | refine w_nul rfl ?_ | refine w_nulR rfl ?_ | refine w_ldc rfl rfl ?_ | refine w_ldc2 rfl rfl ?_ | refine w_put rfl rfl rfl (Nat.le_of_ble_eq_true rfl) (Or.inl rfl) rfl rfl ?_)))
        exact w_lv (ih (k + 1) (by omega) (by omega)) rfl ⟨rfl, rfl, rfl, rfl, rfl, trivial⟩
    have l1 : ∀ (e k : Nat), k + e = c.told → ax_wp ax_run M_ML_best (fun r' => r' = ax_out L xs m o pool u c (.inl (.int (ax_bst c Fs q c.told).1, c))) 12 [(0, .ref 1), (1, .long q), (3, .int (ax_bst c Fs q k).1), (4, .long (ax_bst c Fs q k).2), (6, .int (nI k))] [] (ax_hp L xs c m o pool, u) := by
      intro e
      induction e with
      | zero =>
        intro k hk
        have : k = c.told := by omega
        subst this
        exact l2 (4 - c.told) c.told (by omega) (Nat.le_refl _)
      | succ e ih =>
        intro k hk
        obtain ⟨i, e1, e2, e3⟩ := hF.at_ k (by omega)
        obtain ⟨a, gf, z1, -⟩ := id e2
        (repeat' (first | refine w_iadd1 rfl ?_ | refine w_isub1 rfl ?_ | refine w_iinc1 rfl rfl ?_ | refine w_s rfl rfl ?_ | refine w_get rfl rfl rfl rfl ?_ | refine w_nnl rfl ?_ | refine w_nnlR rfl ?_ | refine w_nul rfl ?_ | refine w_nulR rfl ?_ | refine w_ldc rfl rfl ?_ | refine w_ldc2 rfl rfl ?_ | refine w_put rfl rfl rfl (Nat.le_of_ble_eq_true rfl) (Or.inl rfl) rfl rfl ?_ | ((first | refine w_if2 rfl (fun _ => ?_) (fun _ => ?_) | refine w_if1 rfl (fun _ => ?_) (fun _ => ?_)) <;> try (exfalso; (((try simp only [c_eq0, c_ne0, c_Llt, c_Lle, c_Lgt, c_Lge, c_Leq, c_Lne] at *); try simp only [ax_cnd, vp_in_iff, Int32.lt_iff_toInt_lt, Int32.le_iff_toInt_le, Int64.lt_iff_toInt_lt, Int64.le_iff_toInt_le, q_eq, q_eqL, q_lg, q_nI, q_add, q_sub, q_mul, q_neg, q_addL, q_subL, q_mulL, q_negL, q_i2l, q_l2i, q_b8, q_b16, q_ofI, q_lit, q_ofNL, q_litL, ne_eq, gt_iff_lt, ge_iff_le] at *) <;> omega); done))))
        refine w_aa rfl rfl (Or.inl rfl) rfl (by omega) (by decide) ?_
        rw [e1]
        (repeat (first | refine w_iadd1 rfl ?_ | refine w_isub1 rfl ?_ | refine w_iinc1 rfl rfl ?_ | refine w_s rfl rfl ?_ | refine w_get rfl rfl rfl rfl ?_ | refine w_nnl rfl ?_ | refine w_nnlR rfl ?_ | refine w_nul rfl ?_ | refine w_nulR rfl ?_ | refine w_ldc rfl rfl ?_ | refine w_ldc2 rfl rfl ?_ | refine w_put rfl rfl rfl (Nat.le_of_ble_eq_true rfl) (Or.inl rfl) rfl rfl ?_))
        refine w_cv rfl rfl rfl (hp_at z1) (Nat.le_of_ble_eq_true rfl) (Nat.le_of_ble_eq_true rfl) (r_leastFor e2 e3 hb) ?_
        dsimp only [Option.toList, List.drop, List.cons_append, List.nil_append]
        have ihk := ih (k + 1) (by omega)
        rcases ax_least_r (c := c) e3.n4 with hl | ⟨b, hb1, hl⟩
        · rw [hl]
          refine w_cv rfl rfl rfl (hp_at z1) (Nat.le_of_ble_eq_true rfl) (Nat.le_of_ble_eq_true rfl) (r_gradeAt0 e2 e3 (-1) (fun z => absurd z.1 (by decide))) ?_
          dsimp only [Option.toList, List.drop, List.cons_append, List.nil_append]
          (repeat ((fail_if_success (show ax_wp _ _ _ 12 _ _ _)); (first | refine w_iadd1 rfl ?_ | refine w_isub1 rfl ?_ | refine w_iinc1 rfl rfl ?_ | refine w_s rfl rfl ?_ | refine w_get rfl rfl rfl rfl ?_ | refine w_nnl rfl ?_ | refine w_nnlR rfl ?_ | refine w_nul rfl ?_ | refine w_nulR rfl ?_ | refine w_ldc rfl rfl ?_ | refine w_ldc2 rfl rfl ?_ | refine w_put rfl rfl rfl (Nat.le_of_ble_eq_true rfl) (Or.inl rfl) rfl rfl ?_)))
          have eb : ax_bst c Fs q (k + 1) = ax_bst c Fs q k := if_pos hl
          rw [eb] at ihk
          exact w_lv ihk rfl ⟨rfl, rfl, rfl, rfl, rfl, trivial⟩
        · have hn4 := e3.n4
          have hbb : (nI b).toInt.toNat = b := by rw [q_nI' (by omega)]; rfl
          obtain ⟨g, g1, g2⟩ := r_gradeAt1 (L := L) (xs := xs) (c := c) (m := m) (o := o) (u := u) e2 e3 b hb1
          have hpr := r_priceOf (L := L) (xs := xs) (c := c) (m := m) (o := o) (u := u) g1 (e3.gs b hb1) q (by omega)
          have hpb := ax_pri_b (e3.gs b hb1) (q := q) (by omega)
          have eb : ax_bst c Fs q (k + 1) = (if (ax_bst c Fs q k).1 = -1 ∨ ax_pri ((Fs k).g b) q < (ax_bst c Fs q k).2.toInt then (nI k, Int64.ofInt (ax_pri ((Fs k).g b) q)) else ax_bst c Fs q k) := by
            show (if ax_least c (Fs k) = -1 then _ else _) = _
            rw [if_neg (by rw [hl]; exact nI_ne (by omega)), hl, hbb]
          rw [eb] at ihk
          obtain ⟨ga, gb, gd, can, y1, -⟩ := id g1
          rw [hl]
          refine w_cv rfl rfl rfl (hp_at z1) (Nat.le_of_ble_eq_true rfl) (Nat.le_of_ble_eq_true rfl) g2 ?_
          dsimp only [Option.toList, List.drop, List.cons_append, List.nil_append]
          (repeat (first | refine w_iadd1 rfl ?_ | refine w_isub1 rfl ?_ | refine w_iinc1 rfl rfl ?_ | refine w_s rfl rfl ?_ | refine w_get rfl rfl rfl rfl ?_ | refine w_nnl rfl ?_ | refine w_nnlR rfl ?_ | refine w_nul rfl ?_ | refine w_nulR rfl ?_ | refine w_ldc rfl rfl ?_ | refine w_ldc2 rfl rfl ?_ | refine w_put rfl rfl rfl (Nat.le_of_ble_eq_true rfl) (Or.inl rfl) rfl rfl ?_))
          refine w_if2 rfl (fun h5 => ?_) (fun h5 => ?_)
          · rw [if_pos (Or.inl (show (ax_bst c Fs q k).1 = -1 from h5))] at ihk
            (repeat (first | refine w_iadd1 rfl ?_ | refine w_isub1 rfl ?_ | refine w_iinc1 rfl rfl ?_ | refine w_s rfl rfl ?_ | refine w_get rfl rfl rfl rfl ?_ | refine w_nnl rfl ?_ | refine w_nnlR rfl ?_ | refine w_nul rfl ?_ | refine w_nulR rfl ?_ | refine w_ldc rfl rfl ?_ | refine w_ldc2 rfl rfl ?_ | refine w_put rfl rfl rfl (Nat.le_of_ble_eq_true rfl) (Or.inl rfl) rfl rfl ?_))
            refine w_cv rfl rfl rfl (hp_at y1) (Nat.le_of_ble_eq_true rfl) (Nat.le_of_ble_eq_true rfl) hpr ?_
            dsimp only [Option.toList, List.drop, List.cons_append, List.nil_append]
            (repeat ((fail_if_success (show ax_wp _ _ _ 12 _ _ _)); (first | refine w_iadd1 rfl ?_ | refine w_isub1 rfl ?_ | refine w_iinc1 rfl rfl ?_ | refine w_s rfl rfl ?_ | refine w_get rfl rfl rfl rfl ?_ | refine w_nnl rfl ?_ | refine w_nnlR rfl ?_ | refine w_nul rfl ?_ | refine w_nulR rfl ?_ | refine w_ldc rfl rfl ?_ | refine w_ldc2 rfl rfl ?_ | refine w_put rfl rfl rfl (Nat.le_of_ble_eq_true rfl) (Or.inl rfl) rfl rfl ?_)))
            exact w_lv ihk rfl ⟨rfl, rfl, rfl, rfl, rfl, trivial⟩
          · (repeat (first | refine w_iadd1 rfl ?_ | refine w_isub1 rfl ?_ | refine w_iinc1 rfl rfl ?_ | refine w_s rfl rfl ?_ | refine w_get rfl rfl rfl rfl ?_ | refine w_nnl rfl ?_ | refine w_nnlR rfl ?_ | refine w_nul rfl ?_ | refine w_nulR rfl ?_ | refine w_ldc rfl rfl ?_ | refine w_ldc2 rfl rfl ?_ | refine w_put rfl rfl rfl (Nat.le_of_ble_eq_true rfl) (Or.inl rfl) rfl rfl ?_))
            refine w_cv rfl rfl rfl (hp_at y1) (Nat.le_of_ble_eq_true rfl) (Nat.le_of_ble_eq_true rfl) hpr ?_
            dsimp only [Option.toList, List.drop, List.cons_append, List.nil_append]
            (repeat (first | refine w_iadd1 rfl ?_ | refine w_isub1 rfl ?_ | refine w_iinc1 rfl rfl ?_ | refine w_s rfl rfl ?_ | refine w_get rfl rfl rfl rfl ?_ | refine w_nnl rfl ?_ | refine w_nnlR rfl ?_ | refine w_nul rfl ?_ | refine w_nulR rfl ?_ | refine w_ldc rfl rfl ?_ | refine w_ldc2 rfl rfl ?_ | refine w_put rfl rfl rfl (Nat.le_of_ble_eq_true rfl) (Or.inl rfl) rfl rfl ?_))
            refine w_if1 rfl (fun h7 => ?_) (fun h7 => ?_)
            · have h8 := c_Lge.mp h7
              rw [q_ofIL (by omega) (by omega)] at h8
              rw [if_neg (show ¬ ((ax_bst c Fs q k).1 = -1 ∨ ax_pri ((Fs k).g b) q < (ax_bst c Fs q k).2.toInt) from fun z => z.elim h5 (fun z => absurd z (by omega)))] at ihk
              (repeat ((fail_if_success (show ax_wp _ _ _ 12 _ _ _)); (first | refine w_iadd1 rfl ?_ | refine w_isub1 rfl ?_ | refine w_iinc1 rfl rfl ?_ | refine w_s rfl rfl ?_ | refine w_get rfl rfl rfl rfl ?_ | refine w_nnl rfl ?_ | refine w_nnlR rfl ?_ | refine w_nul rfl ?_ | refine w_nulR rfl ?_ | refine w_ldc rfl rfl ?_ | refine w_ldc2 rfl rfl ?_ | refine w_put rfl rfl rfl (Nat.le_of_ble_eq_true rfl) (Or.inl rfl) rfl rfl ?_)))
              exact w_lv ihk rfl ⟨rfl, rfl, rfl, rfl, rfl, trivial⟩
            · have h8 : ¬ (ax_bst c Fs q k).2.toInt ≤ (Int64.ofInt (ax_pri ((Fs k).g b) q)).toInt := fun z => h7 (c_Lge.mpr z)
              rw [q_ofIL (by omega) (by omega)] at h8
              rw [if_pos (show (ax_bst c Fs q k).1 = -1 ∨ ax_pri ((Fs k).g b) q < (ax_bst c Fs q k).2.toInt from Or.inr (by omega))] at ihk
              (repeat (first | refine w_iadd1 rfl ?_ | refine w_isub1 rfl ?_ | refine w_iinc1 rfl rfl ?_ | refine w_s rfl rfl ?_ | refine w_get rfl rfl rfl rfl ?_ | refine w_nnl rfl ?_ | refine w_nnlR rfl ?_ | refine w_nul rfl ?_ | refine w_nulR rfl ?_ | refine w_ldc rfl rfl ?_ | refine w_ldc2 rfl rfl ?_ | refine w_put rfl rfl rfl (Nat.le_of_ble_eq_true rfl) (Or.inl rfl) rfl rfl ?_))
              refine w_cv rfl rfl rfl (hp_at y1) (Nat.le_of_ble_eq_true rfl) (Nat.le_of_ble_eq_true rfl) hpr ?_
              dsimp only [Option.toList, List.drop, List.cons_append, List.nil_append]
              (repeat ((fail_if_success (show ax_wp _ _ _ 12 _ _ _)); (first | refine w_iadd1 rfl ?_ | refine w_isub1 rfl ?_ | refine w_iinc1 rfl rfl ?_ | refine w_s rfl rfl ?_ | refine w_get rfl rfl rfl rfl ?_ | refine w_nnl rfl ?_ | refine w_nnlR rfl ?_ | refine w_nul rfl ?_ | refine w_nulR rfl ?_ | refine w_ldc rfl rfl ?_ | refine w_ldc2 rfl rfl ?_ | refine w_put rfl rfl rfl (Nat.le_of_ble_eq_true rfl) (Or.inl rfl) rfl rfl ?_)))
              exact w_lv ihk rfl ⟨rfl, rfl, rfl, rfl, rfl, trivial⟩
    (refine ax_run_T (ax_T_of M_ML_best rfl (Nat.le_of_ble_eq_true rfl) ?_))
    (repeat (first | refine w_iadd1 rfl ?_ | refine w_isub1 rfl ?_ | refine w_iinc1 rfl rfl ?_ | refine w_s rfl rfl ?_ | refine w_get rfl rfl rfl rfl ?_ | refine w_nnl rfl ?_ | refine w_nnlR rfl ?_ | refine w_nul rfl ?_ | refine w_nulR rfl ?_ | refine w_ldc rfl rfl ?_ | refine w_ldc2 rfl rfl ?_ | refine w_put rfl rfl rfl (Nat.le_of_ble_eq_true rfl) (Or.inl rfl) rfl rfl ?_))
    (refine w_cs rfl rfl (by first | decide | exact Nat.le_of_ble_eq_true rfl) (by exact Nat.le_of_ble_eq_true rfl) (r_checkQ1 q (by omega)) ?_; dsimp only [Option.toList, List.drop, List.cons_append, List.nil_append])
    (repeat ((fail_if_success (show ax_wp _ _ _ 12 _ _ _)); (first | refine w_iadd1 rfl ?_ | refine w_isub1 rfl ?_ | refine w_iinc1 rfl rfl ?_ | refine w_s rfl rfl ?_ | refine w_get rfl rfl rfl rfl ?_ | refine w_nnl rfl ?_ | refine w_nnlR rfl ?_ | refine w_nul rfl ?_ | refine w_nulR rfl ?_ | refine w_ldc rfl rfl ?_ | refine w_ldc2 rfl rfl ?_ | refine w_put rfl rfl rfl (Nat.le_of_ble_eq_true rfl) (Or.inl rfl) rfl rfl ?_)))
    exact w_lv (l1 c.told 0 (by omega)) rfl ⟨rfl, rfl, rfl, rfl, rfl, trivial⟩
end CI
end
section
/-! the reference's side of the offers -/
abbrev BRel (c : ax_St) (m : ax_Mo) : Prop := (m.things = c.bn) ∧ (∀ t, t < c.bn → m.kinds t = c.kinds t) ∧ (∀ t, t < c.bn → (m.values t).toInt = (c.values t).toInt) ∧ (∀ t, t < c.bn → m.layers t = c.layers t) ∧ (∀ t, t < c.bn → (m.x t).toInt = (c.xs t).toInt) ∧ (∀ t, t < c.bn → (m.y t).toInt = (c.ys t).toInt)
theorem BRel.n {c : ax_St} {m : ax_Mo} (h_ : BRel c m) : m.things = c.bn := h_.1
theorem BRel.k {c : ax_St} {m : ax_Mo} (h_ : BRel c m) : ∀ t, t < c.bn → m.kinds t = c.kinds t := h_.2.1
theorem BRel.v {c : ax_St} {m : ax_Mo} (h_ : BRel c m) : ∀ t, t < c.bn → (m.values t).toInt = (c.values t).toInt := h_.2.2.1
theorem BRel.l {c : ax_St} {m : ax_Mo} (h_ : BRel c m) : ∀ t, t < c.bn → m.layers t = c.layers t := h_.2.2.2.1
theorem BRel.x {c : ax_St} {m : ax_Mo} (h_ : BRel c m) : ∀ t, t < c.bn → (m.x t).toInt = (c.xs t).toInt := h_.2.2.2.2.1
theorem BRel.y {c : ax_St} {m : ax_Mo} (h_ : BRel c m) : ∀ t, t < c.bn → (m.y t).toInt = (c.ys t).toInt := h_.2.2.2.2.2
abbrev NumAt (m : ax_Mo) (p : Nat) (F : ax_Of) : Prop := (m.classes p = nI F.n) ∧ (∀ k, k < F.n → ∀ j, j < 6 → (m.numbers (64 * p + 16 * k + j)).toInt = ((F.g k).lim j).toInt) ∧ (∀ k, k < F.n → (m.numbers (64 * p + 16 * k + 6)).toInt = (F.g k).st) ∧ (∀ k, k < F.n → (m.numbers (64 * p + 16 * k + 7)).toInt = (F.g k).dy.toInt) ∧ (∀ k, k < F.n → ∀ s, s < (F.g k).st → (m.numbers (64 * p + 16 * k + (8 + 2 * s))).toInt = ((F.g k).fr s).toInt) ∧ (∀ k, k < F.n → ∀ s, s < (F.g k).st → (m.numbers (64 * p + 16 * k + (9 + 2 * s))).toInt = ((F.g k).ce s).toInt)
theorem NumAt.cl {m : ax_Mo} {p : Nat} {F : ax_Of} (h_ : NumAt m p F) : m.classes p = nI F.n := h_.1
theorem NumAt.lm {m : ax_Mo} {p : Nat} {F : ax_Of} (h_ : NumAt m p F) : ∀ k, k < F.n → ∀ j, j < 6 → (m.numbers (64 * p + 16 * k + j)).toInt = ((F.g k).lim j).toInt := h_.2.1
theorem NumAt.st {m : ax_Mo} {p : Nat} {F : ax_Of} (h_ : NumAt m p F) : ∀ k, k < F.n → (m.numbers (64 * p + 16 * k + 6)).toInt = (F.g k).st := h_.2.2.1
theorem NumAt.dy {m : ax_Mo} {p : Nat} {F : ax_Of} (h_ : NumAt m p F) : ∀ k, k < F.n → (m.numbers (64 * p + 16 * k + 7)).toInt = (F.g k).dy.toInt := h_.2.2.2.1
theorem NumAt.fr {m : ax_Mo} {p : Nat} {F : ax_Of} (h_ : NumAt m p F) : ∀ k, k < F.n → ∀ s, s < (F.g k).st → (m.numbers (64 * p + 16 * k + (8 + 2 * s))).toInt = ((F.g k).fr s).toInt := h_.2.2.2.2.1
theorem NumAt.ce {m : ax_Mo} {p : Nat} {F : ax_Of} (h_ : NumAt m p F) : ∀ k, k < F.n → ∀ s, s < (F.g k).st → (m.numbers (64 * p + 16 * k + (9 + 2 * s))).toInt = ((F.g k).ce s).toInt := h_.2.2.2.2.2
section MF
variable {L : Nat} {xs : Nat → Int32} {c : ax_St} {m : ax_Mo} {o : Nat → Int64} {pool : List (Option ax_C)} {u : Nat} {h : ax_H}
theorem n_place (p k : Nat) (hp : p < 100) (hk : k < 100) : ax_run m_Mo_place [.int (nI p), .int (nI k)] h (.inl (some (.int (nI (64 * p + 16 * k)))), h) := by
  (refine ax_run_T (ax_T_of M_Mo_place rfl (Nat.le_of_ble_eq_true rfl) ?_))
  (repeat (first | refine w_iadd1 rfl ?_ | refine w_isub1 rfl ?_ | refine w_iinc1 rfl rfl ?_ | refine w_s rfl rfl ?_ | refine w_get rfl rfl rfl rfl ?_ | refine w_nnl rfl ?_ | refine w_nnlR rfl ?_ | refine w_nul rfl ?_ | refine w_nulR rfl ?_ | refine w_ldc rfl rfl ?_ | refine w_ldc2 rfl rfl ?_ | refine w_put rfl rfl rfl (Nat.le_of_ble_eq_true rfl) (Or.inl rfl) rfl rfl ?_))
  refine w_eqI (y := nI (64 * p + 16 * k)) (by (simp only [kb6, kb7, kb8, kb9, kb16, ki0, ki1, ki2, ki3, ki4, ki5, nI_addR, nI_mulR]; try (congr 1; omega))) ?_
  (refine w_iret rfl rfl rfl ?_)
  rfl
theorem n_beyond {p : Nat} {F : ax_Of} (hN : NumAt m p F) (hok : OfferOk F) (hR : BRel c m) (hb : BoardOk c) (hp : p < 15) (k t : Nat) (hk : k < F.n) (ht : t < c.bn) :
    ax_run m_Mo_beyond [.ref 23, .int (nI p), .int (nI k), .int (nI t)] (ax_hp L xs c m o pool, u) (.inl (some (.long (Int64.ofInt (ax_ex c (F.g k) t)))), (ax_hp L xs c m o pool, u)) := by
  have hn4 := hok.n4
  have hbn := hb.n
  obtain ⟨d, hd0, hd1, hd2⟩ := q_nat (x := c.kinds t) (hb.k t ht).1
  have hd3 := (hb.k t ht).2
  have hv := hb.v t ht
  have hlm := hN.lm k hk d (by omega)
  have hlb := (hok.gs k hk).lm d (by omega)
  have hvt := hR.v t ht
  have hdd : (nI d).toInt.toNat = d := by rw [q_nI' hd2]; rfl
  have e0 : ax_ex c (F.g k) t = (if (d : Int) < 4 then ((F.g k).lim d).toInt - (c.values t).toInt else (c.values t).toInt - ((F.g k).lim d).toInt) := by
    unfold ax_ex
    rw [hd0, hdd, q_nI' hd2]
  rw [e0]
  clear e0 hdd
  (refine ax_run_T (ax_T_of M_Mo_beyond rfl (Nat.le_of_ble_eq_true rfl) ?_))
  (repeat (first | refine w_iadd1 rfl ?_ | refine w_isub1 rfl ?_ | refine w_iinc1 rfl rfl ?_ | refine w_s rfl rfl ?_ | refine w_get rfl rfl rfl rfl ?_ | refine w_nnl rfl ?_ | refine w_nnlR rfl ?_ | refine w_nul rfl ?_ | refine w_nulR rfl ?_ | refine w_ldc rfl rfl ?_ | refine w_ldc2 rfl rfl ?_ | refine w_put rfl rfl rfl (Nat.le_of_ble_eq_true rfl) (Or.inl rfl) rfl rfl ?_))
  (refine w_cs rfl rfl (by first | decide | exact Nat.le_of_ble_eq_true rfl) (by exact Nat.le_of_ble_eq_true rfl) (n_place p k (by omega) (by omega)) ?_; dsimp only [Option.toList, List.drop, List.cons_append, List.nil_append])
  (repeat (first | refine w_iadd1 rfl ?_ | refine w_isub1 rfl ?_ | refine w_iinc1 rfl rfl ?_ | refine w_s rfl rfl ?_ | refine w_get rfl rfl rfl rfl ?_ | refine w_nnl rfl ?_ | refine w_nnlR rfl ?_ | refine w_nul rfl ?_ | refine w_nulR rfl ?_ | refine w_ldc rfl rfl ?_ | refine w_ldc2 rfl rfl ?_ | refine w_put rfl rfl rfl (Nat.le_of_ble_eq_true rfl) (Or.inl rfl) rfl rfl ?_))
  refine w_ia rfl rfl rfl (by omega) (by decide) ?_
  rw [hR.k t ht, hd0]
  (repeat (first | refine w_iadd1 rfl ?_ | refine w_isub1 rfl ?_ | refine w_iinc1 rfl rfl ?_ | refine w_s rfl rfl ?_ | refine w_get rfl rfl rfl rfl ?_ | refine w_nnl rfl ?_ | refine w_nnlR rfl ?_ | refine w_nul rfl ?_ | refine w_nulR rfl ?_ | refine w_ldc rfl rfl ?_ | refine w_ldc2 rfl rfl ?_ | refine w_put rfl rfl rfl (Nat.le_of_ble_eq_true rfl) (Or.inl rfl) rfl rfl ?_))
  refine w_la (j := 64 * p + 16 * k + d) rfl rfl (by (simp only [kb6, kb7, kb8, kb9, kb16, ki0, ki1, ki2, ki3, ki4, ki5, nI_addR, nI_mulR]; try (congr 1; omega))) (by omega) (by decide) ?_
  (repeat (first | refine w_iadd1 rfl ?_ | refine w_isub1 rfl ?_ | refine w_iinc1 rfl rfl ?_ | refine w_s rfl rfl ?_ | refine w_get rfl rfl rfl rfl ?_ | refine w_nnl rfl ?_ | refine w_nnlR rfl ?_ | refine w_nul rfl ?_ | refine w_nulR rfl ?_ | refine w_ldc rfl rfl ?_ | refine w_ldc2 rfl rfl ?_ | refine w_put rfl rfl rfl (Nat.le_of_ble_eq_true rfl) (Or.inl rfl) rfl rfl ?_))
  refine w_ia rfl rfl rfl (by omega) (by decide) ?_
  rw [hR.k t ht, hd0]
  (repeat (first | refine w_iadd1 rfl ?_ | refine w_isub1 rfl ?_ | refine w_iinc1 rfl rfl ?_ | refine w_s rfl rfl ?_ | refine w_get rfl rfl rfl rfl ?_ | refine w_nnl rfl ?_ | refine w_nnlR rfl ?_ | refine w_nul rfl ?_ | refine w_nulR rfl ?_ | refine w_ldc rfl rfl ?_ | refine w_ldc2 rfl rfl ?_ | refine w_put rfl rfl rfl (Nat.le_of_ble_eq_true rfl) (Or.inl rfl) rfl rfl ?_))
  refine w_if2 rfl (fun h5 => ?_) (fun h5 => ?_)
  · (repeat (first | refine w_iadd1 rfl ?_ | refine w_isub1 rfl ?_ | refine w_iinc1 rfl rfl ?_ | refine w_s rfl rfl ?_ | refine w_get rfl rfl rfl rfl ?_ | refine w_nnl rfl ?_ | refine w_nnlR rfl ?_ | refine w_nul rfl ?_ | refine w_nulR rfl ?_ | refine w_ldc rfl rfl ?_ | refine w_ldc2 rfl rfl ?_ | refine w_put rfl rfl rfl (Nat.le_of_ble_eq_true rfl) (Or.inl rfl) rfl rfl ?_))
    refine w_la rfl rfl rfl (by omega) (by decide) ?_
    (repeat (first | refine w_iadd1 rfl ?_ | refine w_isub1 rfl ?_ | refine w_iinc1 rfl rfl ?_ | refine w_s rfl rfl ?_ | refine w_get rfl rfl rfl rfl ?_ | refine w_nnl rfl ?_ | refine w_nnlR rfl ?_ | refine w_nul rfl ?_ | refine w_nulR rfl ?_ | refine w_ldc rfl rfl ?_ | refine w_ldc2 rfl rfl ?_ | refine w_put rfl rfl rfl (Nat.le_of_ble_eq_true rfl) (Or.inl rfl) rfl rfl ?_))
    refine w_lret rfl rfl ?_
    rw [if_neg (by (((try simp only [c_eq0, c_ne0, c_Llt, c_Lle, c_Lgt, c_Lge, c_Leq, c_Lne] at *); try simp only [ax_cnd, vp_in_iff, Int32.lt_iff_toInt_lt, Int32.le_iff_toInt_le, Int64.lt_iff_toInt_lt, Int64.le_iff_toInt_le, q_eq, q_eqL, q_lg, q_nI, q_add, q_sub, q_mul, q_neg, q_addL, q_subL, q_mulL, q_negL, q_i2l, q_l2i, q_b8, q_b16, q_ofI, q_lit, q_ofNL, q_litL, ne_eq, gt_iff_lt, ge_iff_le] at *) <;> omega))]
    congr 4
    apply q_toL
    rw [q_subL, hlm, hvt]
    omega
  · (repeat (first | refine w_iadd1 rfl ?_ | refine w_isub1 rfl ?_ | refine w_iinc1 rfl rfl ?_ | refine w_s rfl rfl ?_ | refine w_get rfl rfl rfl rfl ?_ | refine w_nnl rfl ?_ | refine w_nnlR rfl ?_ | refine w_nul rfl ?_ | refine w_nulR rfl ?_ | refine w_ldc rfl rfl ?_ | refine w_ldc2 rfl rfl ?_ | refine w_put rfl rfl rfl (Nat.le_of_ble_eq_true rfl) (Or.inl rfl) rfl rfl ?_))
    refine w_la rfl rfl rfl (by omega) (by decide) ?_
    (repeat (first | refine w_iadd1 rfl ?_ | refine w_isub1 rfl ?_ | refine w_iinc1 rfl rfl ?_ | refine w_s rfl rfl ?_ | refine w_get rfl rfl rfl rfl ?_ | refine w_nnl rfl ?_ | refine w_nnlR rfl ?_ | refine w_nul rfl ?_ | refine w_nulR rfl ?_ | refine w_ldc rfl rfl ?_ | refine w_ldc2 rfl rfl ?_ | refine w_put rfl rfl rfl (Nat.le_of_ble_eq_true rfl) (Or.inl rfl) rfl rfl ?_))
    refine w_lret rfl rfl ?_
    rw [if_pos (by (((try simp only [c_eq0, c_ne0, c_Llt, c_Lle, c_Lgt, c_Lge, c_Leq, c_Lne] at *); try simp only [ax_cnd, vp_in_iff, Int32.lt_iff_toInt_lt, Int32.le_iff_toInt_le, Int64.lt_iff_toInt_lt, Int64.le_iff_toInt_le, q_eq, q_eqL, q_lg, q_nI, q_add, q_sub, q_mul, q_neg, q_addL, q_subL, q_mulL, q_negL, q_i2l, q_l2i, q_b8, q_b16, q_ofI, q_lit, q_ofNL, q_litL, ne_eq, gt_iff_lt, ge_iff_le] at *) <;> omega))]
    congr 4
    apply q_toL
    rw [q_subL, hlm, hvt]
    omega
end MF
end
section
section MF
variable {L : Nat} {xs : Nat → Int32} {c : ax_St} {m : ax_Mo} {o : Nat → Int64} {pool : List (Option ax_C)} {u : Nat} {h : ax_H}
theorem n_makes {p : Nat} {F : ax_Of} (hN : NumAt m p F) (hok : OfferOk F) (hR : BRel c m) (hb : BoardOk c) (hp : p < 15) (k : Nat) (hk : k < F.n) :
    ax_run m_Mo_makes [.ref 23, .int (nI p), .int (nI k)] (ax_hp L xs c m o pool, u) (.inl (some (.int (bI (ax_made c (F.g k))))), (ax_hp L xs c m o pool, u)) := by
  have hbn := hb.n
  have hrn := hR.n
  have lp : ∀ (d t : Nat) (b : Int32), t + d = c.bn → b = bI (∀ i, i < t → ax_ex c (F.g k) i ≤ 0) → ax_wp ax_run M_Mo_makes (fun r' => r' = (.inl (some (.int (bI (ax_made c (F.g k))))), (ax_hp L xs c m o pool, u))) 5 [(0, .ref 23), (1, .int (nI p)), (2, .int (nI k)), (3, .int b), (4, .int (nI t))] [] (ax_hp L xs c m o pool, u) := by
    intro d
    induction d with
    | zero =>
      intro t b ht hbb
      have : t = c.bn := by omega
      subst this
      (repeat' (first | refine w_iadd1 rfl ?_ | refine w_isub1 rfl ?_ | refine w_iinc1 rfl rfl ?_ | refine w_s rfl rfl ?_ | refine w_get rfl rfl rfl rfl ?_ | refine w_nnl rfl ?_ | refine w_nnlR rfl ?_ | refine w_nul rfl ?_ | refine w_nulR rfl ?_ | refine w_ldc rfl rfl ?_ | refine w_ldc2 rfl rfl ?_ | refine w_put rfl rfl rfl (Nat.le_of_ble_eq_true rfl) (Or.inl rfl) rfl rfl ?_ | ((first | refine w_if2 rfl (fun _ => ?_) (fun _ => ?_) | refine w_if1 rfl (fun _ => ?_) (fun _ => ?_)) <;> try (exfalso; (((try simp only [c_eq0, c_ne0, c_Llt, c_Lle, c_Lgt, c_Lge, c_Leq, c_Lne] at *); try simp only [ax_cnd, vp_in_iff, Int32.lt_iff_toInt_lt, Int32.le_iff_toInt_le, Int64.lt_iff_toInt_lt, Int64.le_iff_toInt_le, q_eq, q_eqL, q_lg, q_nI, q_add, q_sub, q_mul, q_neg, q_addL, q_subL, q_mulL, q_negL, q_i2l, q_l2i, q_b8, q_b16, q_ofI, q_lit, q_ofNL, q_litL, ne_eq, gt_iff_lt, ge_iff_le] at *) <;> omega); done))))
      refine w_iret rfl rfl (by rw [hbb]; exact bI_nar) ?_
      rw [hbb]
      try rfl
    | succ d ih =>
      intro t b ht hbb
      have hx := ax_ex_b hb (hok.gs k hk) (t := t) (by omega)
      subst hbb
      (repeat ((fail_if_success (show ax_wp _ _ _ 11 _ _ _)); (first | refine w_iadd1 rfl ?_ | refine w_isub1 rfl ?_ | refine w_iinc1 rfl rfl ?_ | refine w_s rfl rfl ?_ | refine w_get rfl rfl rfl rfl ?_ | refine w_nnl rfl ?_ | refine w_nnlR rfl ?_ | refine w_nul rfl ?_ | refine w_nulR rfl ?_ | refine w_ldc rfl rfl ?_ | refine w_ldc2 rfl rfl ?_ | refine w_put rfl rfl rfl (Nat.le_of_ble_eq_true rfl) (Or.inl rfl) rfl rfl ?_)))
      ((first | refine w_if2 rfl (fun _ => ?_) (fun _ => ?_) | refine w_if1 rfl (fun _ => ?_) (fun _ => ?_)) <;> try (exfalso; (((try simp only [c_eq0, c_ne0, c_Llt, c_Lle, c_Lgt, c_Lge, c_Leq, c_Lne] at *); try simp only [ax_cnd, vp_in_iff, Int32.lt_iff_toInt_lt, Int32.le_iff_toInt_le, Int64.lt_iff_toInt_lt, Int64.le_iff_toInt_le, q_eq, q_eqL, q_lg, q_nI, q_add, q_sub, q_mul, q_neg, q_addL, q_subL, q_mulL, q_negL, q_i2l, q_l2i, q_b8, q_b16, q_ofI, q_lit, q_ofNL, q_litL, ne_eq, gt_iff_lt, ge_iff_le] at *) <;> omega); done))
      (repeat (first | refine w_iadd1 rfl ?_ | refine w_isub1 rfl ?_ | refine w_iinc1 rfl rfl ?_ | refine w_s rfl rfl ?_ | refine w_get rfl rfl rfl rfl ?_ | refine w_nnl rfl ?_ | refine w_nnlR rfl ?_ | refine w_nul rfl ?_ | refine w_nulR rfl ?_ | refine w_ldc rfl rfl ?_ | refine w_ldc2 rfl rfl ?_ | refine w_put rfl rfl rfl (Nat.le_of_ble_eq_true rfl) (Or.inl rfl) rfl rfl ?_))
      refine w_if1 rfl (fun h5 => ?_) (fun h5 => ?_)
      · have h6 := c_eq0.mp h5
        (repeat ((fail_if_success (show ax_wp _ _ _ 5 _ _ _)); (first | refine w_iadd1 rfl ?_ | refine w_isub1 rfl ?_ | refine w_iinc1 rfl rfl ?_ | refine w_s rfl rfl ?_ | refine w_get rfl rfl rfl rfl ?_ | refine w_nnl rfl ?_ | refine w_nnlR rfl ?_ | refine w_nul rfl ?_ | refine w_nulR rfl ?_ | refine w_ldc rfl rfl ?_ | refine w_ldc2 rfl rfl ?_ | refine w_put rfl rfl rfl (Nat.le_of_ble_eq_true rfl) (Or.inl rfl) rfl rfl ?_)))
        refine w_lv (ih (t + 1) (Int32.ofInt 0) (by omega) (bI_f (fun z => h6 (fun i hi => z i (by omega)))).symm) rfl ⟨rfl, rfl, rfl, rfl, rfl, trivial⟩
      · have h6 : ∀ i, i < t → ax_ex c (F.g k) i ≤ 0 := Decidable.not_not.mp (fun z => h5 (c_eq0.mpr z))
        (repeat (first | refine w_iadd1 rfl ?_ | refine w_isub1 rfl ?_ | refine w_iinc1 rfl rfl ?_ | refine w_s rfl rfl ?_ | refine w_get rfl rfl rfl rfl ?_ | refine w_nnl rfl ?_ | refine w_nnlR rfl ?_ | refine w_nul rfl ?_ | refine w_nulR rfl ?_ | refine w_ldc rfl rfl ?_ | refine w_ldc2 rfl rfl ?_ | refine w_put rfl rfl rfl (Nat.le_of_ble_eq_true rfl) (Or.inl rfl) rfl rfl ?_))
        (refine w_cv rfl rfl rfl rfl (by exact Nat.le_of_ble_eq_true rfl) (by exact Nat.le_of_ble_eq_true rfl) (n_beyond hN hok hR hb hp k t hk (by omega)) ?_; dsimp only [Option.toList, List.drop, List.cons_append, List.nil_append])
        (repeat (first | refine w_iadd1 rfl ?_ | refine w_isub1 rfl ?_ | refine w_iinc1 rfl rfl ?_ | refine w_s rfl rfl ?_ | refine w_get rfl rfl rfl rfl ?_ | refine w_nnl rfl ?_ | refine w_nnlR rfl ?_ | refine w_nul rfl ?_ | refine w_nulR rfl ?_ | refine w_ldc rfl rfl ?_ | refine w_ldc2 rfl rfl ?_ | refine w_put rfl rfl rfl (Nat.le_of_ble_eq_true rfl) (Or.inl rfl) rfl rfl ?_))
        refine w_if1 rfl (fun h7 => ?_) (fun h7 => ?_)
        · have h8 := c_Lgt.mp h7
          rw [q_ofIL (by omega) (by omega), q_ofNL] at h8
          (repeat ((fail_if_success (show ax_wp _ _ _ 5 _ _ _)); (first | refine w_iadd1 rfl ?_ | refine w_isub1 rfl ?_ | refine w_iinc1 rfl rfl ?_ | refine w_s rfl rfl ?_ | refine w_get rfl rfl rfl rfl ?_ | refine w_nnl rfl ?_ | refine w_nnlR rfl ?_ | refine w_nul rfl ?_ | refine w_nulR rfl ?_ | refine w_ldc rfl rfl ?_ | refine w_ldc2 rfl rfl ?_ | refine w_put rfl rfl rfl (Nat.le_of_ble_eq_true rfl) (Or.inl rfl) rfl rfl ?_)))
          refine w_lv (ih (t + 1) (Int32.ofInt 0) (by omega) (bI_f (fun z => absurd (z t (by omega)) (by omega))).symm) rfl ⟨rfl, rfl, rfl, rfl, rfl, trivial⟩
        · have h8 : ¬ (Int64.ofNat 0).toInt < (Int64.ofInt (ax_ex c (F.g k) t)).toInt := fun z => h7 (c_Lgt.mpr z)
          rw [q_ofIL (by omega) (by omega), q_ofNL] at h8
          (repeat ((fail_if_success (show ax_wp _ _ _ 5 _ _ _)); (first | refine w_iadd1 rfl ?_ | refine w_isub1 rfl ?_ | refine w_iinc1 rfl rfl ?_ | refine w_s rfl rfl ?_ | refine w_get rfl rfl rfl rfl ?_ | refine w_nnl rfl ?_ | refine w_nnlR rfl ?_ | refine w_nul rfl ?_ | refine w_nulR rfl ?_ | refine w_ldc rfl rfl ?_ | refine w_ldc2 rfl rfl ?_ | refine w_put rfl rfl rfl (Nat.le_of_ble_eq_true rfl) (Or.inl rfl) rfl rfl ?_)))
          refine w_lv (ih (t + 1) (Int32.ofInt 1) (by omega) (bI_t (P := ∀ i, i < t + 1 → ax_ex c (F.g k) i ≤ 0) (fun i hi => ?_)).symm) rfl ⟨rfl, rfl, rfl, rfl, rfl, trivial⟩
          by_cases hit : i = t
          · subst hit; omega
          · exact h6 i (by omega)
  (refine ax_run_T (ax_T_of M_Mo_makes rfl (Nat.le_of_ble_eq_true rfl) ?_))
  (repeat ((fail_if_success (show ax_wp _ _ _ 5 _ _ _)); (first | refine w_iadd1 rfl ?_ | refine w_isub1 rfl ?_ | refine w_iinc1 rfl rfl ?_ | refine w_s rfl rfl ?_ | refine w_get rfl rfl rfl rfl ?_ | refine w_nnl rfl ?_ | refine w_nnlR rfl ?_ | refine w_nul rfl ?_ | refine w_nulR rfl ?_ | refine w_ldc rfl rfl ?_ | refine w_ldc2 rfl rfl ?_ | refine w_put rfl rfl rfl (Nat.le_of_ble_eq_true rfl) (Or.inl rfl) rfl rfl ?_)))
  refine w_lv (lp c.bn 0 (Int32.ofInt 1) (by omega) (bI_t (fun i hi => absurd hi (by omega))).symm) rfl ⟨rfl, rfl, rfl, rfl, rfl, trivial⟩
theorem n_leastOf {p : Nat} {F : ax_Of} (hN : NumAt m p F) (hok : OfferOk F) (hR : BRel c m) (hb : BoardOk c) (hp : p < 15) :
    ax_run m_Mo_leastOf [.ref 23, .int (nI p)] (ax_hp L xs c m o pool, u) (.inl (some (.int (ax_least c F))), (ax_hp L xs c m o pool, u)) := by
  have hn4 := hok.n4
  have lp : ∀ (d k : Nat), k + d = F.n → ax_wp ax_run M_Mo_leastOf (fun r' => r' = (.inl (some (.int (ax_lst (fun k => decide (ax_made c (F.g k))) d k))), (ax_hp L xs c m o pool, u))) 2 [(0, .ref 23), (1, .int (nI p)), (2, .int (nI k))] [] (ax_hp L xs c m o pool, u) := by
    intro d
    induction d with
    | zero =>
      intro k hk
      (repeat (first | refine w_iadd1 rfl ?_ | refine w_isub1 rfl ?_ | refine w_iinc1 rfl rfl ?_ | refine w_s rfl rfl ?_ | refine w_get rfl rfl rfl rfl ?_ | refine w_nnl rfl ?_ | refine w_nnlR rfl ?_ | refine w_nul rfl ?_ | refine w_nulR rfl ?_ | refine w_ldc rfl rfl ?_ | refine w_ldc2 rfl rfl ?_ | refine w_put rfl rfl rfl (Nat.le_of_ble_eq_true rfl) (Or.inl rfl) rfl rfl ?_))
      refine w_ia rfl rfl rfl (by omega) (by decide) ?_
      rw [hN.cl]
      (repeat' (first | refine w_iadd1 rfl ?_ | refine w_isub1 rfl ?_ | refine w_iinc1 rfl rfl ?_ | refine w_s rfl rfl ?_ | refine w_get rfl rfl rfl rfl ?_ | refine w_nnl rfl ?_ | refine w_nnlR rfl ?_ | refine w_nul rfl ?_ | refine w_nulR rfl ?_ | refine w_ldc rfl rfl ?_ | refine w_ldc2 rfl rfl ?_ | refine w_put rfl rfl rfl (Nat.le_of_ble_eq_true rfl) (Or.inl rfl) rfl rfl ?_ | ((first | refine w_if2 rfl (fun _ => ?_) (fun _ => ?_) | refine w_if1 rfl (fun _ => ?_) (fun _ => ?_)) <;> try (exfalso; (((try simp only [c_eq0, c_ne0, c_Llt, c_Lle, c_Lgt, c_Lge, c_Leq, c_Lne] at *); try simp only [ax_cnd, vp_in_iff, Int32.lt_iff_toInt_lt, Int32.le_iff_toInt_le, Int64.lt_iff_toInt_lt, Int64.le_iff_toInt_le, q_eq, q_eqL, q_lg, q_nI, q_add, q_sub, q_mul, q_neg, q_addL, q_subL, q_mulL, q_negL, q_i2l, q_l2i, q_b8, q_b16, q_ofI, q_lit, q_ofNL, q_litL, ne_eq, gt_iff_lt, ge_iff_le] at *) <;> omega); done))))
      (refine w_iret rfl rfl rfl ?_)
      rfl
    | succ d ih =>
      intro k hk
      (repeat (first | refine w_iadd1 rfl ?_ | refine w_isub1 rfl ?_ | refine w_iinc1 rfl rfl ?_ | refine w_s rfl rfl ?_ | refine w_get rfl rfl rfl rfl ?_ | refine w_nnl rfl ?_ | refine w_nnlR rfl ?_ | refine w_nul rfl ?_ | refine w_nulR rfl ?_ | refine w_ldc rfl rfl ?_ | refine w_ldc2 rfl rfl ?_ | refine w_put rfl rfl rfl (Nat.le_of_ble_eq_true rfl) (Or.inl rfl) rfl rfl ?_))
      refine w_ia rfl rfl rfl (by omega) (by decide) ?_
      rw [hN.cl]
      (repeat' (first | refine w_iadd1 rfl ?_ | refine w_isub1 rfl ?_ | refine w_iinc1 rfl rfl ?_ | refine w_s rfl rfl ?_ | refine w_get rfl rfl rfl rfl ?_ | refine w_nnl rfl ?_ | refine w_nnlR rfl ?_ | refine w_nul rfl ?_ | refine w_nulR rfl ?_ | refine w_ldc rfl rfl ?_ | refine w_ldc2 rfl rfl ?_ | refine w_put rfl rfl rfl (Nat.le_of_ble_eq_true rfl) (Or.inl rfl) rfl rfl ?_ | ((first | refine w_if2 rfl (fun _ => ?_) (fun _ => ?_) | refine w_if1 rfl (fun _ => ?_) (fun _ => ?_)) <;> try (exfalso; (((try simp only [c_eq0, c_ne0, c_Llt, c_Lle, c_Lgt, c_Lge, c_Leq, c_Lne] at *); try simp only [ax_cnd, vp_in_iff, Int32.lt_iff_toInt_lt, Int32.le_iff_toInt_le, Int64.lt_iff_toInt_lt, Int64.le_iff_toInt_le, q_eq, q_eqL, q_lg, q_nI, q_add, q_sub, q_mul, q_neg, q_addL, q_subL, q_mulL, q_negL, q_i2l, q_l2i, q_b8, q_b16, q_ofI, q_lit, q_ofNL, q_litL, ne_eq, gt_iff_lt, ge_iff_le] at *) <;> omega); done))))
      (refine w_cv rfl rfl rfl rfl (by exact Nat.le_of_ble_eq_true rfl) (by exact Nat.le_of_ble_eq_true rfl) (n_makes hN hok hR hb hp k (by omega)) ?_; dsimp only [Option.toList, List.drop, List.cons_append, List.nil_append])
      refine w_if1 rfl (fun h5 => ?_) (fun h5 => ?_)
      · have h6 := c_eq0.mp h5
        (repeat ((fail_if_success (show ax_wp _ _ _ 2 _ _ _)); (first | refine w_iadd1 rfl ?_ | refine w_isub1 rfl ?_ | refine w_iinc1 rfl rfl ?_ | refine w_s rfl rfl ?_ | refine w_get rfl rfl rfl rfl ?_ | refine w_nnl rfl ?_ | refine w_nnlR rfl ?_ | refine w_nul rfl ?_ | refine w_nulR rfl ?_ | refine w_ldc rfl rfl ?_ | refine w_ldc2 rfl rfl ?_ | refine w_put rfl rfl rfl (Nat.le_of_ble_eq_true rfl) (Or.inl rfl) rfl rfl ?_)))
        refine w_lv (l1 := [(0, .ref 23), (1, .int (nI p)), (2, .int (nI (k + 1)))]) (w_post (ih (k + 1) (by omega)) (fun r hr => ?_)) rfl ⟨rfl, rfl, rfl, trivial⟩
        rw [hr]
        simp only [ax_lst, h6, decide_false, Bool.false_eq_true, if_false]
      · have h6 : ax_made c (F.g k) := Decidable.not_not.mp (fun z => h5 (c_eq0.mpr z))
        (repeat (first | refine w_iadd1 rfl ?_ | refine w_isub1 rfl ?_ | refine w_iinc1 rfl rfl ?_ | refine w_s rfl rfl ?_ | refine w_get rfl rfl rfl rfl ?_ | refine w_nnl rfl ?_ | refine w_nnlR rfl ?_ | refine w_nul rfl ?_ | refine w_nulR rfl ?_ | refine w_ldc rfl rfl ?_ | refine w_ldc2 rfl rfl ?_ | refine w_put rfl rfl rfl (Nat.le_of_ble_eq_true rfl) (Or.inl rfl) rfl rfl ?_))
        (refine w_iret rfl rfl rfl ?_)
        show _ = (Sum.inl (some (Value.int (if decide (ax_made c (F.g k)) = true then nI k else _))), _)
        rw [if_pos (decide_eq_true h6)]
  (refine ax_run_T (ax_T_of M_Mo_leastOf rfl (Nat.le_of_ble_eq_true rfl) ?_))
  (repeat ((fail_if_success (show ax_wp _ _ _ 2 _ _ _)); (first | refine w_iadd1 rfl ?_ | refine w_isub1 rfl ?_ | refine w_iinc1 rfl rfl ?_ | refine w_s rfl rfl ?_ | refine w_get rfl rfl rfl rfl ?_ | refine w_nnl rfl ?_ | refine w_nnlR rfl ?_ | refine w_nul rfl ?_ | refine w_nulR rfl ?_ | refine w_ldc rfl rfl ?_ | refine w_ldc2 rfl rfl ?_ | refine w_put rfl rfl rfl (Nat.le_of_ble_eq_true rfl) (Or.inl rfl) rfl rfl ?_)))
  exact w_lv (lp F.n 0 (by omega)) rfl ⟨rfl, rfl, rfl, trivial⟩
end MF
end
section
section MF
variable {L : Nat} {xs : Nat → Int32} {c : ax_St} {m : ax_Mo} {o : Nat → Int64} {pool : List (Option ax_C)} {u : Nat} {h : ax_H}
theorem n_isMaker (k : Int32) (hn : m.makers ≤ 4) : ax_run m_Mo_isMaker [.ref 23, .int k] (ax_hp L xs c m o pool, u) (.inl (some (.int (bI (0 ≤ k.toInt ∧ k.toInt < m.makers)))), (ax_hp L xs c m o pool, u)) := by
  (refine ax_run_T (ax_T_of M_Mo_isMaker rfl (Nat.le_of_ble_eq_true rfl) ?_))
  (repeat' (first | refine w_iadd1 rfl ?_ | refine w_isub1 rfl ?_ | refine w_iinc1 rfl rfl ?_ | refine w_s rfl rfl ?_ | refine w_get rfl rfl rfl rfl ?_ | refine w_nnl rfl ?_ | refine w_nnlR rfl ?_ | refine w_nul rfl ?_ | refine w_nulR rfl ?_ | refine w_ldc rfl rfl ?_ | refine w_ldc2 rfl rfl ?_ | refine w_put rfl rfl rfl (Nat.le_of_ble_eq_true rfl) (Or.inl rfl) rfl rfl ?_ | ((first | refine w_if2 rfl (fun _ => ?_) (fun _ => ?_) | refine w_if1 rfl (fun _ => ?_) (fun _ => ?_)) <;> try (exfalso; (((try simp only [c_eq0, c_ne0, c_Llt, c_Lle, c_Lgt, c_Lge, c_Leq, c_Lne] at *); try simp only [ax_cnd, vp_in_iff, Int32.lt_iff_toInt_lt, Int32.le_iff_toInt_le, Int64.lt_iff_toInt_lt, Int64.le_iff_toInt_le, q_eq, q_eqL, q_lg, q_nI, q_add, q_sub, q_mul, q_neg, q_addL, q_subL, q_mulL, q_negL, q_i2l, q_l2i, q_b8, q_b16, q_ofI, q_lit, q_ofNL, q_litL, ne_eq, gt_iff_lt, ge_iff_le] at *) <;> omega); done)))) <;> (refine w_iret rfl rfl rfl ?_) <;> (first | exact bT (by (((try simp only [c_eq0, c_ne0, c_Llt, c_Lle, c_Lgt, c_Lge, c_Leq, c_Lne] at *); try simp only [ax_cnd, vp_in_iff, Int32.lt_iff_toInt_lt, Int32.le_iff_toInt_le, Int64.lt_iff_toInt_lt, Int64.le_iff_toInt_le, q_eq, q_eqL, q_lg, q_nI, q_add, q_sub, q_mul, q_neg, q_addL, q_subL, q_mulL, q_negL, q_i2l, q_l2i, q_b8, q_b16, q_ofI, q_lit, q_ofNL, q_litL, ne_eq, gt_iff_lt, ge_iff_le] at *) <;> omega)) | exact bF (by (((try simp only [c_eq0, c_ne0, c_Llt, c_Lle, c_Lgt, c_Lge, c_Leq, c_Lne] at *); try simp only [ax_cnd, vp_in_iff, Int32.lt_iff_toInt_lt, Int32.le_iff_toInt_le, Int64.lt_iff_toInt_lt, Int64.le_iff_toInt_le, q_eq, q_eqL, q_lg, q_nI, q_add, q_sub, q_mul, q_neg, q_addL, q_subL, q_mulL, q_negL, q_i2l, q_l2i, q_b8, q_b16, q_ofI, q_lit, q_ofNL, q_litL, ne_eq, gt_iff_lt, ge_iff_le] at *) <;> omega)) | (exfalso; (((try simp only [c_eq0, c_ne0, c_Llt, c_Lle, c_Lgt, c_Lge, c_Leq, c_Lne] at *); try simp only [ax_cnd, vp_in_iff, Int32.lt_iff_toInt_lt, Int32.le_iff_toInt_le, Int64.lt_iff_toInt_lt, Int64.le_iff_toInt_le, q_eq, q_eqL, q_lg, q_nI, q_add, q_sub, q_mul, q_neg, q_addL, q_subL, q_mulL, q_negL, q_i2l, q_l2i, q_b8, q_b16, q_ofI, q_lit, q_ofNL, q_litL, ne_eq, gt_iff_lt, ge_iff_le] at *) <;> omega)))
theorem ax_jx_lt (p : Nat → Bool) : ∀ n, 1 ≤ n → ax_jx p n < n := by
  intro n
  induction n with
  | zero => intro z; omega
  | succ n ihn =>
    intro _
    unfold ax_jx
    split
    · omega
    · by_cases hz : 1 ≤ n
      · have := ihn hz; omega
      · have : n = 0 := by omega
        subst this
        exact Nat.succ_pos 0
theorem ax_up0 {G : ax_Gr} (hok : GradeOk G) : ∀ s, s < G.st → (G.fr 0).toInt ≤ (G.fr s).toInt ∧ (1 ≤ s → (G.fr 0).toInt < (G.fr s).toInt) := by
  intro s
  induction s with
  | zero => exact fun _ => ⟨Int.le_refl _, fun z => absurd z (by omega)⟩
  | succ s ih =>
    intro hs
    have h1 := ih (by omega)
    have h2 := hok.up s hs
    exact ⟨by omega, fun _ => by omega⟩
theorem q_dec (s : Nat) (hs : s < 1000) : (nI s + Int32.ofInt (-1)).toInt = (s : Int) - 1 := by
  rw [q_add, q_nI, q_ofI]
  omega
theorem q_le1 {s t : Nat} (h : s + 1 ≤ t) : s ≤ t := by omega
theorem mulOk (a b : Int64) (x y : Int) (h1 : a.toInt = x) (h2 : b.toInt = y) (h3 : 0 ≤ x) (h4 : x ≤ 1000000) (h5 : 0 ≤ y) (h6 : y ≤ 1000000) : a * b = Int64.ofInt (x * y) := by
  apply q_toL
  rw [q_mulL, h1, h2]
  have hm1 : x * y ≤ 1000000 * 1000000 := Int.mul_le_mul h4 h6 h5 (by omega)
  have hm2 : 0 ≤ x * y := Int.mul_nonneg h3 h5
  omega
theorem n_priceOf {p : Nat} {F : ax_Of} (hN : NumAt m p F) (hok : OfferOk F) (hp : p < 15) (k : Nat) (hk : k < F.n) (q : Int64) (hq : 1 ≤ q.toInt ∧ q.toInt ≤ 1000000) :
    ax_run m_Mo_priceOf [.ref 23, .int (nI p), .int (nI k), .long q] (ax_hp L xs c m o pool, u) (.inl (some (.long (Int64.ofInt (ax_pri (F.g k) q)))), (ax_hp L xs c m o pool, u)) := by
  have hn4 := hok.n4
  have hg := hok.gs k hk
  have hs1 := hg.s1
  have hs4 := hg.s4
  have hst := hN.st k hk
  have hu0 := ax_up0 hg
  have lp : ∀ (s : Nat) (x : Int32), s ≤ (F.g k).st → x.toInt = (s : Int) - 1 → (∀ i, s ≤ i → i < (F.g k).st → q.toInt < ((F.g k).fr i).toInt) → ax_wp ax_run M_Mo_priceOf (fun r' => r' = (.inl (some (.long (Int64.ofInt (ax_pri (F.g k) q)))), (ax_hp L xs c m o pool, u))) 26 [(0, .ref 23), (3, .long q), (5, .int (nI (64 * p + 16 * k))), (7, .int x)] [] (ax_hp L xs c m o pool, u) := by
    intro s
    induction s with
    | zero =>
      intro x hs hx hall
      have h0 := hall 0 (Nat.le_refl _) (by omega)
      have hf0 := hg.fm 0 (by omega)
      have hc0 := hg.cm 0 (by omega)
      (repeat ((fail_if_success (show ax_wp _ _ _ 28 _ _ _)); (first | refine w_iadd1 rfl ?_ | refine w_isub1 rfl ?_ | refine w_iinc1 rfl rfl ?_ | refine w_s rfl rfl ?_ | refine w_get rfl rfl rfl rfl ?_ | refine w_nnl rfl ?_ | refine w_nnlR rfl ?_ | refine w_nul rfl ?_ | refine w_nulR rfl ?_ | refine w_ldc rfl rfl ?_ | refine w_ldc2 rfl rfl ?_ | refine w_put rfl rfl rfl (Nat.le_of_ble_eq_true rfl) (Or.inl rfl) rfl rfl ?_)))
      refine w_if1 rfl (fun _ => ?_) (fun h5 => absurd (c_lt0.mpr (by omega)) h5)
      (repeat (first | refine w_iadd1 rfl ?_ | refine w_isub1 rfl ?_ | refine w_iinc1 rfl rfl ?_ | refine w_s rfl rfl ?_ | refine w_get rfl rfl rfl rfl ?_ | refine w_nnl rfl ?_ | refine w_nnlR rfl ?_ | refine w_nul rfl ?_ | refine w_nulR rfl ?_ | refine w_ldc rfl rfl ?_ | refine w_ldc2 rfl rfl ?_ | refine w_put rfl rfl rfl (Nat.le_of_ble_eq_true rfl) (Or.inl rfl) rfl rfl ?_))
      refine w_la (j := 64 * p + 16 * k + (8 + 2 * 0)) rfl rfl (by (simp only [kb6, kb7, kb8, kb9, kb16, ki0, ki1, ki2, ki3, ki4, ki5, nI_addR, nI_mulR]; try (congr 1; omega))) (by omega) (by decide) ?_
      (repeat (first | refine w_iadd1 rfl ?_ | refine w_isub1 rfl ?_ | refine w_iinc1 rfl rfl ?_ | refine w_s rfl rfl ?_ | refine w_get rfl rfl rfl rfl ?_ | refine w_nnl rfl ?_ | refine w_nnlR rfl ?_ | refine w_nul rfl ?_ | refine w_nulR rfl ?_ | refine w_ldc rfl rfl ?_ | refine w_ldc2 rfl rfl ?_ | refine w_put rfl rfl rfl (Nat.le_of_ble_eq_true rfl) (Or.inl rfl) rfl rfl ?_))
      refine w_la (j := 64 * p + 16 * k + (9 + 2 * 0)) rfl rfl (by (simp only [kb6, kb7, kb8, kb9, kb16, ki0, ki1, ki2, ki3, ki4, ki5, nI_addR, nI_mulR]; try (congr 1; omega))) (by omega) (by decide) ?_
      (repeat (first | refine w_iadd1 rfl ?_ | refine w_isub1 rfl ?_ | refine w_iinc1 rfl rfl ?_ | refine w_s rfl rfl ?_ | refine w_get rfl rfl rfl rfl ?_ | refine w_nnl rfl ?_ | refine w_nnlR rfl ?_ | refine w_nul rfl ?_ | refine w_nulR rfl ?_ | refine w_ldc rfl rfl ?_ | refine w_ldc2 rfl rfl ?_ | refine w_put rfl rfl rfl (Nat.le_of_ble_eq_true rfl) (Or.inl rfl) rfl rfl ?_))
      refine w_lret rfl rfl ?_
      congr 4
      have hpd : ax_paid (F.g k) q = ((F.g k).fr 0).toInt := if_pos h0
      have hjx : ∀ n, 1 ≤ n → n ≤ (F.g k).st → ax_jx (fun s => decide (((F.g k).fr s).toInt ≤ ((F.g k).fr 0).toInt)) n = 0 := by
        intro n
        induction n with
        | zero => intro z; omega
        | succ n ihn =>
          intro _ hnn
          by_cases hz : n = 0
          · subst hz
            show (if _ then 0 else ax_jx _ 0) = 0
            split <;> rfl
          · show (if decide (((F.g k).fr n).toInt ≤ ((F.g k).fr 0).toInt) = true then n else _) = 0
            have := (hu0 n (by omega)).2 (by omega)
            rw [if_neg (by rw [decide_eq_true_eq]; omega)]
            exact ihn (by omega) (by omega)
      unfold ax_pri
      rw [hpd, hjx _ hs1 (Nat.le_refl _)]
      exact mulOk _ _ _ _ (hN.fr k hk 0 (by omega)) (hN.ce k hk 0 (by omega)) (by omega) (by omega) (by omega) (by omega)
    | succ s ih =>
      intro x hs hx hall
      have hx' : x = nI s := q_nIof (by omega) (by omega)
      subst hx'
      have hcb := hg.cm s (by omega)
      (repeat ((fail_if_success (show ax_wp _ _ _ 28 _ _ _)); (first | refine w_iadd1 rfl ?_ | refine w_isub1 rfl ?_ | refine w_iinc1 rfl rfl ?_ | refine w_s rfl rfl ?_ | refine w_get rfl rfl rfl rfl ?_ | refine w_nnl rfl ?_ | refine w_nnlR rfl ?_ | refine w_nul rfl ?_ | refine w_nulR rfl ?_ | refine w_ldc rfl rfl ?_ | refine w_ldc2 rfl rfl ?_ | refine w_put rfl rfl rfl (Nat.le_of_ble_eq_true rfl) (Or.inl rfl) rfl rfl ?_)))
      refine w_if1 rfl (fun h5 => absurd (c_lt0.mp h5) (by omega)) (fun _ => ?_)
      (repeat (first | refine w_iadd1 rfl ?_ | refine w_isub1 rfl ?_ | refine w_iinc1 rfl rfl ?_ | refine w_s rfl rfl ?_ | refine w_get rfl rfl rfl rfl ?_ | refine w_nnl rfl ?_ | refine w_nnlR rfl ?_ | refine w_nul rfl ?_ | refine w_nulR rfl ?_ | refine w_ldc rfl rfl ?_ | refine w_ldc2 rfl rfl ?_ | refine w_put rfl rfl rfl (Nat.le_of_ble_eq_true rfl) (Or.inl rfl) rfl rfl ?_))
      refine w_la (j := 64 * p + 16 * k + (8 + 2 * s)) rfl rfl (by (simp only [kb6, kb7, kb8, kb9, kb16, ki0, ki1, ki2, ki3, ki4, ki5, nI_addR, nI_mulR]; try (congr 1; omega))) (by omega) (by decide) ?_
      (repeat (first | refine w_iadd1 rfl ?_ | refine w_isub1 rfl ?_ | refine w_iinc1 rfl rfl ?_ | refine w_s rfl rfl ?_ | refine w_get rfl rfl rfl rfl ?_ | refine w_nnl rfl ?_ | refine w_nnlR rfl ?_ | refine w_nul rfl ?_ | refine w_nulR rfl ?_ | refine w_ldc rfl rfl ?_ | refine w_ldc2 rfl rfl ?_ | refine w_put rfl rfl rfl (Nat.le_of_ble_eq_true rfl) (Or.inl rfl) rfl rfl ?_))
      refine w_if1 rfl (fun h7 => ?_) (fun h7 => ?_)
      · have h8 := c_Lgt.mp h7
        rw [hN.fr k hk s (by omega)] at h8
        clear h7
        (repeat ((fail_if_success (show ax_wp _ _ _ 26 _ _ _)); (first | refine w_iadd1 rfl ?_ | refine w_isub1 rfl ?_ | refine w_iinc1 rfl rfl ?_ | refine w_s rfl rfl ?_ | refine w_get rfl rfl rfl rfl ?_ | refine w_nnl rfl ?_ | refine w_nnlR rfl ?_ | refine w_nul rfl ?_ | refine w_nulR rfl ?_ | refine w_ldc rfl rfl ?_ | refine w_ldc2 rfl rfl ?_ | refine w_put rfl rfl rfl (Nat.le_of_ble_eq_true rfl) (Or.inl rfl) rfl rfl ?_)))
        refine w_lv (ih (nI s + Int32.ofInt (-1)) (q_le1 hs) (q_dec s (Nat.lt_of_lt_of_le (Nat.lt_of_lt_of_le (Nat.lt_succ_self s) (Nat.le_trans hs hs4)) (by decide))) (fun i hi1 hi2 => ?_)) rfl ⟨rfl, rfl, rfl, rfl, trivial⟩
        by_cases his : i = s
        · subst his; omega
        · exact hall i (by omega) hi2
      · have h8 : ¬ q.toInt < (m.numbers (64 * p + 16 * k + (8 + 2 * s))).toInt := fun z => h7 (c_Lgt.mpr z)
        rw [hN.fr k hk s (by omega)] at h8
        clear h7
        (repeat (first | refine w_iadd1 rfl ?_ | refine w_isub1 rfl ?_ | refine w_iinc1 rfl rfl ?_ | refine w_s rfl rfl ?_ | refine w_get rfl rfl rfl rfl ?_ | refine w_nnl rfl ?_ | refine w_nnlR rfl ?_ | refine w_nul rfl ?_ | refine w_nulR rfl ?_ | refine w_ldc rfl rfl ?_ | refine w_ldc2 rfl rfl ?_ | refine w_put rfl rfl rfl (Nat.le_of_ble_eq_true rfl) (Or.inl rfl) rfl rfl ?_))
        refine w_la (j := 64 * p + 16 * k + (9 + 2 * s)) rfl rfl (by (simp only [kb6, kb7, kb8, kb9, kb16, ki0, ki1, ki2, ki3, ki4, ki5, nI_addR, nI_mulR]; try (congr 1; omega))) (by omega) (by decide) ?_
        (repeat (first | refine w_iadd1 rfl ?_ | refine w_isub1 rfl ?_ | refine w_iinc1 rfl rfl ?_ | refine w_s rfl rfl ?_ | refine w_get rfl rfl rfl rfl ?_ | refine w_nnl rfl ?_ | refine w_nnlR rfl ?_ | refine w_nul rfl ?_ | refine w_nulR rfl ?_ | refine w_ldc rfl rfl ?_ | refine w_ldc2 rfl rfl ?_ | refine w_put rfl rfl rfl (Nat.le_of_ble_eq_true rfl) (Or.inl rfl) rfl rfl ?_))
        refine w_lret rfl rfl ?_
        congr 4
        have hpd : ax_paid (F.g k) q = q.toInt := if_neg (by have := (hu0 s (by omega)).1; omega)
        have hjx : ∀ n, s + 1 ≤ n → n ≤ (F.g k).st → ax_jx (fun s => decide (((F.g k).fr s).toInt ≤ q.toInt)) n = s := by
          intro n
          induction n with
          | zero => intro z; omega
          | succ n ihn =>
            intro h1 hnn
            show (if decide (((F.g k).fr n).toInt ≤ q.toInt) = true then n else _) = s
            by_cases hz : n = s
            · subst hz
              rw [if_pos (by rw [decide_eq_true_eq]; omega)]
            · have := hall n (by omega) (by omega)
              rw [if_neg (by rw [decide_eq_true_eq]; omega)]
              exact ihn (by omega) (by omega)
        unfold ax_pri
        rw [hpd, hjx _ hs (Nat.le_refl _)]
        exact mulOk _ _ _ _ rfl (hN.ce k hk s (by omega)) (by omega) (by omega) (by omega) (by omega)
  (refine ax_run_T (ax_T_of M_Mo_priceOf rfl (Nat.le_of_ble_eq_true rfl) ?_))
  (repeat (first | refine w_iadd1 rfl ?_ | refine w_isub1 rfl ?_ | refine w_iinc1 rfl rfl ?_ | refine w_s rfl rfl ?_ | refine w_get rfl rfl rfl rfl ?_ | refine w_nnl rfl ?_ | refine w_nnlR rfl ?_ | refine w_nul rfl ?_ | refine w_nulR rfl ?_ | refine w_ldc rfl rfl ?_ | refine w_ldc2 rfl rfl ?_ | refine w_put rfl rfl rfl (Nat.le_of_ble_eq_true rfl) (Or.inl rfl) rfl rfl ?_))
  (refine w_cs rfl rfl (by first | decide | exact Nat.le_of_ble_eq_true rfl) (by exact Nat.le_of_ble_eq_true rfl) (n_place p k (by omega) (by omega)) ?_; dsimp only [Option.toList, List.drop, List.cons_append, List.nil_append])
  (repeat (first | refine w_iadd1 rfl ?_ | refine w_isub1 rfl ?_ | refine w_iinc1 rfl rfl ?_ | refine w_s rfl rfl ?_ | refine w_get rfl rfl rfl rfl ?_ | refine w_nnl rfl ?_ | refine w_nnlR rfl ?_ | refine w_nul rfl ?_ | refine w_nulR rfl ?_ | refine w_ldc rfl rfl ?_ | refine w_ldc2 rfl rfl ?_ | refine w_put rfl rfl rfl (Nat.le_of_ble_eq_true rfl) (Or.inl rfl) rfl rfl ?_))
  refine w_la (j := 64 * p + 16 * k + 6) rfl rfl (by (simp only [kb6, kb7, kb8, kb9, kb16, ki0, ki1, ki2, ki3, ki4, ki5, nI_addR, nI_mulR]; try (congr 1; omega))) (by omega) (by decide) ?_
  (repeat ((fail_if_success (show ax_wp _ _ _ 26 _ _ _)); (first | refine w_iadd1 rfl ?_ | refine w_isub1 rfl ?_ | refine w_iinc1 rfl rfl ?_ | refine w_s rfl rfl ?_ | refine w_get rfl rfl rfl rfl ?_ | refine w_nnl rfl ?_ | refine w_nnlR rfl ?_ | refine w_nul rfl ?_ | refine w_nulR rfl ?_ | refine w_ldc rfl rfl ?_ | refine w_ldc2 rfl rfl ?_ | refine w_put rfl rfl rfl (Nat.le_of_ble_eq_true rfl) (Or.inl rfl) rfl rfl ?_)))
  refine w_lv (lp (F.g k).st ((m.numbers (64 * p + 16 * k + 6)).toInt32 - Int32.ofInt 1) (Nat.le_refl _) (by rw [q_sub, q_l2i, q_ofI, hst]; omega) (fun i h1 h2 => absurd h2 (by omega))) rfl ⟨rfl, rfl, rfl, rfl, trivial⟩
end MF
end
section
abbrev MkRel (m : ax_Mo) (Fs : Nat → ax_Of) : Prop := (m.makers ≤ 4) ∧ (∀ k, k < m.makers → NumAt m k (Fs k) ∧ OfferOk (Fs k))
theorem MkRel.n {m : ax_Mo} {Fs : Nat → ax_Of} (h_ : MkRel m Fs) : m.makers ≤ 4 := h_.1
theorem MkRel.at_ {m : ax_Mo} {Fs : Nat → ax_Of} (h_ : MkRel m Fs) : ∀ k, k < m.makers → NumAt m k (Fs k) ∧ OfferOk (Fs k) := h_.2
theorem k_ne1 : ax_cnd .ne (Int32.ofInt 1) 0 := (by decide : ¬ Int32.ofInt 1 = 0)
theorem k_ne2 : ax_cnd .ne (Int32.ofInt 2) 0 := (by decide : ¬ Int32.ofInt 2 = 0)
theorem k_eq1 : ¬ ax_cnd .eq (Int32.ofInt 1) 0 := (by decide : ¬ Int32.ofInt 1 = 0)
theorem k_eq2 : ¬ ax_cnd .eq (Int32.ofInt 2) 0 := (by decide : ¬ Int32.ofInt 2 = 0)
section MG
variable {L : Nat} {xs : Nat → Int32} {c : ax_St} {m : ax_Mo} {o : Nat → Int64} {pool : List (Option ax_C)} {u : Nat} {h : ax_H}
theorem n_isClass {Fs : Nat → ax_Of} (hM : MkRel m Fs) (k j : Int32) : ax_run m_Mo_isClass [.ref 23, .int k, .int j] (ax_hp L xs c m o pool, u) (.inl (some (.int (bI (0 ≤ k.toInt ∧ k.toInt < m.makers ∧ 0 ≤ j.toInt ∧ j.toInt < (Fs k.toInt.toNat).n)))), (ax_hp L xs c m o pool, u)) := by
  have hn := hM.n
  (refine ax_run_T (ax_T_of M_Mo_isClass rfl (Nat.le_of_ble_eq_true rfl) ?_))
  (repeat (first | refine w_iadd1 rfl ?_ | refine w_isub1 rfl ?_ | refine w_iinc1 rfl rfl ?_ | refine w_s rfl rfl ?_ | refine w_get rfl rfl rfl rfl ?_ | refine w_nnl rfl ?_ | refine w_nnlR rfl ?_ | refine w_nul rfl ?_ | refine w_nulR rfl ?_ | refine w_ldc rfl rfl ?_ | refine w_ldc2 rfl rfl ?_ | refine w_put rfl rfl rfl (Nat.le_of_ble_eq_true rfl) (Or.inl rfl) rfl rfl ?_))
  (refine w_cv rfl rfl rfl rfl (by exact Nat.le_of_ble_eq_true rfl) (by exact Nat.le_of_ble_eq_true rfl) (n_isMaker k hM.n) ?_; dsimp only [Option.toList, List.drop, List.cons_append, List.nil_append])
  by_cases hk : 0 ≤ k.toInt ∧ k.toInt < m.makers
  · obtain ⟨n, rfl, hn1, hn2⟩ := q_nat (x := k) (by omega)
    have hN := (hM.at_ n (by omega)).1
    have hO := (hM.at_ n (by omega)).2.n4
    have hnn : (nI n).toInt.toNat = n := by rw [← hn1]; rfl
    rw [hnn]
    clear hnn
    refine w_if1 rfl (fun h5 => absurd hk (c_eq0.mp h5)) (fun _ => ?_)
    (repeat (first | refine w_iadd1 rfl ?_ | refine w_isub1 rfl ?_ | refine w_iinc1 rfl rfl ?_ | refine w_s rfl rfl ?_ | refine w_get rfl rfl rfl rfl ?_ | refine w_nnl rfl ?_ | refine w_nnlR rfl ?_ | refine w_nul rfl ?_ | refine w_nulR rfl ?_ | refine w_ldc rfl rfl ?_ | refine w_ldc2 rfl rfl ?_ | refine w_put rfl rfl rfl (Nat.le_of_ble_eq_true rfl) (Or.inl rfl) rfl rfl ?_))
    refine w_if1 rfl (fun h5 => ?_) (fun h5 => ?_)
    · (repeat (first | refine w_iadd1 rfl ?_ | refine w_isub1 rfl ?_ | refine w_iinc1 rfl rfl ?_ | refine w_s rfl rfl ?_ | refine w_get rfl rfl rfl rfl ?_ | refine w_nnl rfl ?_ | refine w_nnlR rfl ?_ | refine w_nul rfl ?_ | refine w_nulR rfl ?_ | refine w_ldc rfl rfl ?_ | refine w_ldc2 rfl rfl ?_ | refine w_put rfl rfl rfl (Nat.le_of_ble_eq_true rfl) (Or.inl rfl) rfl rfl ?_))
      (refine w_iret rfl rfl rfl ?_)
      exact bF (fun z => absurd z.2.2.1 (by have := c_lt0.mp h5; omega))
    · (repeat (first | refine w_iadd1 rfl ?_ | refine w_isub1 rfl ?_ | refine w_iinc1 rfl rfl ?_ | refine w_s rfl rfl ?_ | refine w_get rfl rfl rfl rfl ?_ | refine w_nnl rfl ?_ | refine w_nnlR rfl ?_ | refine w_nul rfl ?_ | refine w_nulR rfl ?_ | refine w_ldc rfl rfl ?_ | refine w_ldc2 rfl rfl ?_ | refine w_put rfl rfl rfl (Nat.le_of_ble_eq_true rfl) (Or.inl rfl) rfl rfl ?_))
      refine w_ia rfl rfl rfl (by omega) (by decide) ?_
      rw [hN.cl]
      refine w_if2 rfl (fun h6 => ?_) (fun h6 => ?_)
      · (repeat (first | refine w_iadd1 rfl ?_ | refine w_isub1 rfl ?_ | refine w_iinc1 rfl rfl ?_ | refine w_s rfl rfl ?_ | refine w_get rfl rfl rfl rfl ?_ | refine w_nnl rfl ?_ | refine w_nnlR rfl ?_ | refine w_nul rfl ?_ | refine w_nulR rfl ?_ | refine w_ldc rfl rfl ?_ | refine w_ldc2 rfl rfl ?_ | refine w_put rfl rfl rfl (Nat.le_of_ble_eq_true rfl) (Or.inl rfl) rfl rfl ?_))
        (refine w_iret rfl rfl rfl ?_)
        refine bF (fun z => ?_)
        have h7 := Int32.le_iff_toInt_le.mp h6
        rw [q_nI' (by omega)] at h7
        omega
      · (repeat (first | refine w_iadd1 rfl ?_ | refine w_isub1 rfl ?_ | refine w_iinc1 rfl rfl ?_ | refine w_s rfl rfl ?_ | refine w_get rfl rfl rfl rfl ?_ | refine w_nnl rfl ?_ | refine w_nnlR rfl ?_ | refine w_nul rfl ?_ | refine w_nulR rfl ?_ | refine w_ldc rfl rfl ?_ | refine w_ldc2 rfl rfl ?_ | refine w_put rfl rfl rfl (Nat.le_of_ble_eq_true rfl) (Or.inl rfl) rfl rfl ?_))
        (refine w_iret rfl rfl rfl ?_)
        refine bT ⟨hk.1, hk.2, ?_, ?_⟩
        · exact Int.not_lt.mp (fun z => h5 (c_lt0.mpr z))
        · have h7 : ¬ (nI (Fs n).n).toInt ≤ j.toInt := fun z => h6 (Int32.le_iff_toInt_le.mpr z)
          rw [q_nI' (by omega)] at h7
          omega
  · refine w_if1 rfl (fun _ => ?_) (fun h5 => absurd (c_eq0.mpr hk) h5)
    (repeat (first | refine w_iadd1 rfl ?_ | refine w_isub1 rfl ?_ | refine w_iinc1 rfl rfl ?_ | refine w_s rfl rfl ?_ | refine w_get rfl rfl rfl rfl ?_ | refine w_nnl rfl ?_ | refine w_nnlR rfl ?_ | refine w_nul rfl ?_ | refine w_nulR rfl ?_ | refine w_ldc rfl rfl ?_ | refine w_ldc2 rfl rfl ?_ | refine w_put rfl rfl rfl (Nat.le_of_ble_eq_true rfl) (Or.inl rfl) rfl rfl ?_))
    (refine w_iret rfl rfl rfl ?_)
    exact bF (fun z => hk ⟨z.1, z.2.1⟩)
def mp_least (c : ax_St) (m : ax_Mo) (Fs : Nat → ax_Of) (k : Int32) : Value × ax_Mo := if ¬ (0 ≤ k.toInt ∧ k.toInt < m.makers) then (.int 0, (ax_Mo.u_thrown m 1)) else (.int (ax_least c (Fs k.toInt.toNat)), (ax_Mo.u_thrown m 0))
theorem NumAt.thr {p : Nat} {F : ax_Of} {x : Int32} (h : NumAt m p F) : NumAt (ax_Mo.u_thrown m x) p F := ⟨h.cl, h.lm, h.st, h.dy, h.fr, h.ce⟩
theorem BRel.thr {x : Int32} (h : BRel c m) : BRel c (ax_Mo.u_thrown m x) := ⟨h.n, h.k, h.v, h.l, h.x, h.y⟩
theorem n_least {Fs : Nat → ax_Of} (hM : MkRel m Fs) (hR : BRel c m) (hb : BoardOk c) (k : Int32) : ax_run m_Mo_least [.ref 23, .int k] (ax_hp L xs c m o pool, u) (ax_mout L xs c o pool u (mp_least c m Fs k)) := by
  have hn := hM.n
  unfold mp_least
  split
  · rename_i h0
    (refine ax_run_T (ax_T_of M_Mo_least rfl (Nat.le_of_ble_eq_true rfl) ?_))
    (repeat (first | refine w_iadd1 rfl ?_ | refine w_isub1 rfl ?_ | refine w_iinc1 rfl rfl ?_ | refine w_s rfl rfl ?_ | refine w_get rfl rfl rfl rfl ?_ | refine w_nnl rfl ?_ | refine w_nnlR rfl ?_ | refine w_nul rfl ?_ | refine w_nulR rfl ?_ | refine w_ldc rfl rfl ?_ | refine w_ldc2 rfl rfl ?_ | refine w_put rfl rfl rfl (Nat.le_of_ble_eq_true rfl) (Or.inl rfl) rfl rfl ?_))
    (refine w_cv rfl rfl rfl rfl (by exact Nat.le_of_ble_eq_true rfl) (by exact Nat.le_of_ble_eq_true rfl) (n_isMaker k hM.n) ?_; dsimp only [Option.toList, List.drop, List.cons_append, List.nil_append])
    refine w_if1 rfl (fun _ => ?_) (fun h5 => absurd (c_eq0.mpr h0) h5)
    (repeat (first | refine w_iadd1 rfl ?_ | refine w_isub1 rfl ?_ | refine w_iinc1 rfl rfl ?_ | refine w_s rfl rfl ?_ | refine w_get rfl rfl rfl rfl ?_ | refine w_nnl rfl ?_ | refine w_nnlR rfl ?_ | refine w_nul rfl ?_ | refine w_nulR rfl ?_ | refine w_ldc rfl rfl ?_ | refine w_ldc2 rfl rfl ?_ | refine w_put rfl rfl rfl (Nat.le_of_ble_eq_true rfl) (Or.inl rfl) rfl rfl ?_))
    refine w_if1 rfl (fun _ => ?_) (fun h5 => absurd (by first | exact k_ne1 | exact k_ne2) h5)
    (repeat (first | refine w_iadd1 rfl ?_ | refine w_isub1 rfl ?_ | refine w_iinc1 rfl rfl ?_ | refine w_s rfl rfl ?_ | refine w_get rfl rfl rfl rfl ?_ | refine w_nnl rfl ?_ | refine w_nnlR rfl ?_ | refine w_nul rfl ?_ | refine w_nulR rfl ?_ | refine w_ldc rfl rfl ?_ | refine w_ldc2 rfl rfl ?_ | refine w_put rfl rfl rfl (Nat.le_of_ble_eq_true rfl) (Or.inl rfl) rfl rfl ?_))
    (refine w_iret rfl rfl rfl ?_)
    rfl
  · rename_i h0
    have h1 : 0 ≤ k.toInt ∧ k.toInt < m.makers := by omega
    obtain ⟨n, rfl, hn1, hn2⟩ := q_nat (x := k) (by omega)
    have hnn : (nI n).toInt.toNat = n := by rw [← hn1]; rfl
    rw [hnn]
    have hN := hM.at_ n (by omega)
    (refine ax_run_T (ax_T_of M_Mo_least rfl (Nat.le_of_ble_eq_true rfl) ?_))
    (repeat (first | refine w_iadd1 rfl ?_ | refine w_isub1 rfl ?_ | refine w_iinc1 rfl rfl ?_ | refine w_s rfl rfl ?_ | refine w_get rfl rfl rfl rfl ?_ | refine w_nnl rfl ?_ | refine w_nnlR rfl ?_ | refine w_nul rfl ?_ | refine w_nulR rfl ?_ | refine w_ldc rfl rfl ?_ | refine w_ldc2 rfl rfl ?_ | refine w_put rfl rfl rfl (Nat.le_of_ble_eq_true rfl) (Or.inl rfl) rfl rfl ?_))
    (refine w_cv rfl rfl rfl rfl (by exact Nat.le_of_ble_eq_true rfl) (by exact Nat.le_of_ble_eq_true rfl) (n_isMaker (nI n) hM.n) ?_; dsimp only [Option.toList, List.drop, List.cons_append, List.nil_append])
    refine w_if1 rfl (fun h5 => absurd h1 (c_eq0.mp h5)) (fun _ => ?_)
    (repeat (first | refine w_iadd1 rfl ?_ | refine w_isub1 rfl ?_ | refine w_iinc1 rfl rfl ?_ | refine w_s rfl rfl ?_ | refine w_get rfl rfl rfl rfl ?_ | refine w_nnl rfl ?_ | refine w_nnlR rfl ?_ | refine w_nul rfl ?_ | refine w_nulR rfl ?_ | refine w_ldc rfl rfl ?_ | refine w_ldc2 rfl rfl ?_ | refine w_put rfl rfl rfl (Nat.le_of_ble_eq_true rfl) (Or.inl rfl) rfl rfl ?_))
    refine w_if1 rfl (fun h5 => absurd rfl h5) (fun _ => ?_)
    (repeat (first | refine w_iadd1 rfl ?_ | refine w_isub1 rfl ?_ | refine w_iinc1 rfl rfl ?_ | refine w_s rfl rfl ?_ | refine w_get rfl rfl rfl rfl ?_ | refine w_nnl rfl ?_ | refine w_nnlR rfl ?_ | refine w_nul rfl ?_ | refine w_nulR rfl ?_ | refine w_ldc rfl rfl ?_ | refine w_ldc2 rfl rfl ?_ | refine w_put rfl rfl rfl (Nat.le_of_ble_eq_true rfl) (Or.inl rfl) rfl rfl ?_))
    (refine w_cv rfl rfl rfl rfl (by exact Nat.le_of_ble_eq_true rfl) (by exact Nat.le_of_ble_eq_true rfl) (n_leastOf (m := (ax_Mo.u_thrown m 0)) hN.1.thr hN.2 hR.thr hb (by omega)) ?_; dsimp only [Option.toList, List.drop, List.cons_append, List.nil_append])
    (repeat (first | refine w_iadd1 rfl ?_ | refine w_isub1 rfl ?_ | refine w_iinc1 rfl rfl ?_ | refine w_s rfl rfl ?_ | refine w_get rfl rfl rfl rfl ?_ | refine w_nnl rfl ?_ | refine w_nnlR rfl ?_ | refine w_nul rfl ?_ | refine w_nulR rfl ?_ | refine w_ldc rfl rfl ?_ | refine w_ldc2 rfl rfl ?_ | refine w_put rfl rfl rfl (Nat.le_of_ble_eq_true rfl) (Or.inl rfl) rfl rfl ?_))
    (refine w_iret rfl rfl rfl ?_)
    rfl
def mp_price (m : ax_Mo) (Fs : Nat → ax_Of) (k j : Int32) (q : Int64) : Value × ax_Mo := if ¬ (0 ≤ k.toInt ∧ k.toInt < m.makers ∧ 0 ≤ j.toInt ∧ j.toInt < (Fs k.toInt.toNat).n) then (.long 0, (ax_Mo.u_thrown m 1)) else if ¬ (1 ≤ q.toInt ∧ q.toInt ≤ 1000000) then (.long 0, (ax_Mo.u_thrown m 2)) else (.long (Int64.ofInt (ax_pri ((Fs k.toInt.toNat).g j.toInt.toNat) q)), (ax_Mo.u_thrown m 0))
theorem n_price {Fs : Nat → ax_Of} (hM : MkRel m Fs) (k j : Int32) (q : Int64) : ax_run m_Mo_price [.ref 23, .int k, .int j, .long q] (ax_hp L xs c m o pool, u) (ax_mout L xs c o pool u (mp_price m Fs k j q)) := by
  have hn := hM.n
  unfold mp_price
  split
  · rename_i h0
    (refine ax_run_T (ax_T_of M_Mo_price rfl (Nat.le_of_ble_eq_true rfl) ?_))
    (repeat (first | refine w_iadd1 rfl ?_ | refine w_isub1 rfl ?_ | refine w_iinc1 rfl rfl ?_ | refine w_s rfl rfl ?_ | refine w_get rfl rfl rfl rfl ?_ | refine w_nnl rfl ?_ | refine w_nnlR rfl ?_ | refine w_nul rfl ?_ | refine w_nulR rfl ?_ | refine w_ldc rfl rfl ?_ | refine w_ldc2 rfl rfl ?_ | refine w_put rfl rfl rfl (Nat.le_of_ble_eq_true rfl) (Or.inl rfl) rfl rfl ?_))
    (refine w_cv rfl rfl rfl rfl (by exact Nat.le_of_ble_eq_true rfl) (by exact Nat.le_of_ble_eq_true rfl) (n_isClass hM k j) ?_; dsimp only [Option.toList, List.drop, List.cons_append, List.nil_append])
    refine w_if1 rfl (fun h5 => absurd (c_ne0.mp h5) h0) (fun _ => ?_)
    (repeat (first | refine w_iadd1 rfl ?_ | refine w_isub1 rfl ?_ | refine w_iinc1 rfl rfl ?_ | refine w_s rfl rfl ?_ | refine w_get rfl rfl rfl rfl ?_ | refine w_nnl rfl ?_ | refine w_nnlR rfl ?_ | refine w_nul rfl ?_ | refine w_nulR rfl ?_ | refine w_ldc rfl rfl ?_ | refine w_ldc2 rfl rfl ?_ | refine w_put rfl rfl rfl (Nat.le_of_ble_eq_true rfl) (Or.inl rfl) rfl rfl ?_))
    refine w_if1 rfl (fun _ => ?_) (fun h5 => absurd (by first | exact k_ne1 | exact k_ne2) h5)
    (repeat (first | refine w_iadd1 rfl ?_ | refine w_isub1 rfl ?_ | refine w_iinc1 rfl rfl ?_ | refine w_s rfl rfl ?_ | refine w_get rfl rfl rfl rfl ?_ | refine w_nnl rfl ?_ | refine w_nnlR rfl ?_ | refine w_nul rfl ?_ | refine w_nulR rfl ?_ | refine w_ldc rfl rfl ?_ | refine w_ldc2 rfl rfl ?_ | refine w_put rfl rfl rfl (Nat.le_of_ble_eq_true rfl) (Or.inl rfl) rfl rfl ?_))
    exact w_lret rfl rfl rfl
  · rename_i h0
    have h1 := Decidable.not_not.mp h0
    obtain ⟨n, rfl, hn1, hn2⟩ := q_nat (x := k) (by omega)
    obtain ⟨i, rfl, hi1, hi2⟩ := q_nat (x := j) (by omega)
    have hnn : (nI n).toInt.toNat = n := by rw [← hn1]; rfl
    have hii : (nI i).toInt.toNat = i := by rw [← hi1]; rfl
    have hN := hM.at_ n (by omega)
    have hin : i < (Fs n).n := by
      have := h1.2.2.2
      rw [hnn, ← hi1] at this
      omega
    split
    · rename_i h2
      (refine ax_run_T (ax_T_of M_Mo_price rfl (Nat.le_of_ble_eq_true rfl) ?_))
      (repeat (first | refine w_iadd1 rfl ?_ | refine w_isub1 rfl ?_ | refine w_iinc1 rfl rfl ?_ | refine w_s rfl rfl ?_ | refine w_get rfl rfl rfl rfl ?_ | refine w_nnl rfl ?_ | refine w_nnlR rfl ?_ | refine w_nul rfl ?_ | refine w_nulR rfl ?_ | refine w_ldc rfl rfl ?_ | refine w_ldc2 rfl rfl ?_ | refine w_put rfl rfl rfl (Nat.le_of_ble_eq_true rfl) (Or.inl rfl) rfl rfl ?_))
      (refine w_cv rfl rfl rfl rfl (by exact Nat.le_of_ble_eq_true rfl) (by exact Nat.le_of_ble_eq_true rfl) (n_isClass hM (nI n) (nI i)) ?_; dsimp only [Option.toList, List.drop, List.cons_append, List.nil_append])
      refine w_if1 rfl (fun _ => ?_) (fun h5 => absurd (c_ne0.mpr h1) h5)
      (repeat (first | refine w_iadd1 rfl ?_ | refine w_isub1 rfl ?_ | refine w_iinc1 rfl rfl ?_ | refine w_s rfl rfl ?_ | refine w_get rfl rfl rfl rfl ?_ | refine w_nnl rfl ?_ | refine w_nnlR rfl ?_ | refine w_nul rfl ?_ | refine w_nulR rfl ?_ | refine w_ldc rfl rfl ?_ | refine w_ldc2 rfl rfl ?_ | refine w_put rfl rfl rfl (Nat.le_of_ble_eq_true rfl) (Or.inl rfl) rfl rfl ?_))
      (refine w_cs rfl rfl (by first | decide | exact Nat.le_of_ble_eq_true rfl) (by exact Nat.le_of_ble_eq_true rfl) (n_isQuantity q) ?_; dsimp only [Option.toList, List.drop, List.cons_append, List.nil_append])
      refine w_if1 rfl (fun _ => ?_) (fun h5 => absurd (c_eq0.mpr h2) h5)
      (repeat (first | refine w_iadd1 rfl ?_ | refine w_isub1 rfl ?_ | refine w_iinc1 rfl rfl ?_ | refine w_s rfl rfl ?_ | refine w_get rfl rfl rfl rfl ?_ | refine w_nnl rfl ?_ | refine w_nnlR rfl ?_ | refine w_nul rfl ?_ | refine w_nulR rfl ?_ | refine w_ldc rfl rfl ?_ | refine w_ldc2 rfl rfl ?_ | refine w_put rfl rfl rfl (Nat.le_of_ble_eq_true rfl) (Or.inl rfl) rfl rfl ?_))
      refine w_if1 rfl (fun _ => ?_) (fun h5 => absurd (by first | exact k_ne1 | exact k_ne2) h5)
      (repeat (first | refine w_iadd1 rfl ?_ | refine w_isub1 rfl ?_ | refine w_iinc1 rfl rfl ?_ | refine w_s rfl rfl ?_ | refine w_get rfl rfl rfl rfl ?_ | refine w_nnl rfl ?_ | refine w_nnlR rfl ?_ | refine w_nul rfl ?_ | refine w_nulR rfl ?_ | refine w_ldc rfl rfl ?_ | refine w_ldc2 rfl rfl ?_ | refine w_put rfl rfl rfl (Nat.le_of_ble_eq_true rfl) (Or.inl rfl) rfl rfl ?_))
      exact w_lret rfl rfl rfl
    · rename_i h2
      rw [hnn, hii]
      (refine ax_run_T (ax_T_of M_Mo_price rfl (Nat.le_of_ble_eq_true rfl) ?_))
      (repeat (first | refine w_iadd1 rfl ?_ | refine w_isub1 rfl ?_ | refine w_iinc1 rfl rfl ?_ | refine w_s rfl rfl ?_ | refine w_get rfl rfl rfl rfl ?_ | refine w_nnl rfl ?_ | refine w_nnlR rfl ?_ | refine w_nul rfl ?_ | refine w_nulR rfl ?_ | refine w_ldc rfl rfl ?_ | refine w_ldc2 rfl rfl ?_ | refine w_put rfl rfl rfl (Nat.le_of_ble_eq_true rfl) (Or.inl rfl) rfl rfl ?_))
      (refine w_cv rfl rfl rfl rfl (by exact Nat.le_of_ble_eq_true rfl) (by exact Nat.le_of_ble_eq_true rfl) (n_isClass hM (nI n) (nI i)) ?_; dsimp only [Option.toList, List.drop, List.cons_append, List.nil_append])
      refine w_if1 rfl (fun _ => ?_) (fun h5 => absurd (c_ne0.mpr h1) h5)
      (repeat (first | refine w_iadd1 rfl ?_ | refine w_isub1 rfl ?_ | refine w_iinc1 rfl rfl ?_ | refine w_s rfl rfl ?_ | refine w_get rfl rfl rfl rfl ?_ | refine w_nnl rfl ?_ | refine w_nnlR rfl ?_ | refine w_nul rfl ?_ | refine w_nulR rfl ?_ | refine w_ldc rfl rfl ?_ | refine w_ldc2 rfl rfl ?_ | refine w_put rfl rfl rfl (Nat.le_of_ble_eq_true rfl) (Or.inl rfl) rfl rfl ?_))
      (refine w_cs rfl rfl (by first | decide | exact Nat.le_of_ble_eq_true rfl) (by exact Nat.le_of_ble_eq_true rfl) (n_isQuantity q) ?_; dsimp only [Option.toList, List.drop, List.cons_append, List.nil_append])
      refine w_if1 rfl (fun h5 => absurd (Decidable.not_not.mp h2) (c_eq0.mp h5)) (fun _ => ?_)
      (repeat (first | refine w_iadd1 rfl ?_ | refine w_isub1 rfl ?_ | refine w_iinc1 rfl rfl ?_ | refine w_s rfl rfl ?_ | refine w_get rfl rfl rfl rfl ?_ | refine w_nnl rfl ?_ | refine w_nnlR rfl ?_ | refine w_nul rfl ?_ | refine w_nulR rfl ?_ | refine w_ldc rfl rfl ?_ | refine w_ldc2 rfl rfl ?_ | refine w_put rfl rfl rfl (Nat.le_of_ble_eq_true rfl) (Or.inl rfl) rfl rfl ?_))
      refine w_if1 rfl (fun h5 => absurd rfl h5) (fun _ => ?_)
      (repeat (first | refine w_iadd1 rfl ?_ | refine w_isub1 rfl ?_ | refine w_iinc1 rfl rfl ?_ | refine w_s rfl rfl ?_ | refine w_get rfl rfl rfl rfl ?_ | refine w_nnl rfl ?_ | refine w_nnlR rfl ?_ | refine w_nul rfl ?_ | refine w_nulR rfl ?_ | refine w_ldc rfl rfl ?_ | refine w_ldc2 rfl rfl ?_ | refine w_put rfl rfl rfl (Nat.le_of_ble_eq_true rfl) (Or.inl rfl) rfl rfl ?_))
      (refine w_cv rfl rfl rfl rfl (by exact Nat.le_of_ble_eq_true rfl) (by exact Nat.le_of_ble_eq_true rfl) (n_priceOf (m := (ax_Mo.u_thrown m 0)) hN.1.thr hN.2 (by omega) i hin q (Decidable.not_not.mp h2)) ?_; dsimp only [Option.toList, List.drop, List.cons_append, List.nil_append])
      (repeat (first | refine w_iadd1 rfl ?_ | refine w_isub1 rfl ?_ | refine w_iinc1 rfl rfl ?_ | refine w_s rfl rfl ?_ | refine w_get rfl rfl rfl rfl ?_ | refine w_nnl rfl ?_ | refine w_nnlR rfl ?_ | refine w_nul rfl ?_ | refine w_nulR rfl ?_ | refine w_ldc rfl rfl ?_ | refine w_ldc2 rfl rfl ?_ | refine w_put rfl rfl rfl (Nat.le_of_ble_eq_true rfl) (Or.inl rfl) rfl rfl ?_))
      exact w_lret rfl rfl rfl
def mp_best (c : ax_St) (m : ax_Mo) (Fs : Nat → ax_Of) (q : Int64) : Value × ax_Mo := if ¬ (1 ≤ q.toInt ∧ q.toInt ≤ 1000000) then (.int 0, (ax_Mo.u_thrown m 1)) else (.int (ax_bst c Fs q m.makers).1, (ax_Mo.u_thrown m 0))
theorem n_best {Fs : Nat → ax_Of} (hM : MkRel m Fs) (hR : BRel c m) (hb : BoardOk c) (q : Int64) : ax_run m_Mo_best [.ref 23, .long q] (ax_hp L xs c m o pool, u) (ax_mout L xs c o pool u (mp_best c m Fs q)) := by
  have hn := hM.n
  unfold mp_best
  split
  · rename_i h0
    (refine ax_run_T (ax_T_of M_Mo_best rfl (Nat.le_of_ble_eq_true rfl) ?_))
    (repeat (first | refine w_iadd1 rfl ?_ | refine w_isub1 rfl ?_ | refine w_iinc1 rfl rfl ?_ | refine w_s rfl rfl ?_ | refine w_get rfl rfl rfl rfl ?_ | refine w_nnl rfl ?_ | refine w_nnlR rfl ?_ | refine w_nul rfl ?_ | refine w_nulR rfl ?_ | refine w_ldc rfl rfl ?_ | refine w_ldc2 rfl rfl ?_ | refine w_put rfl rfl rfl (Nat.le_of_ble_eq_true rfl) (Or.inl rfl) rfl rfl ?_))
    (refine w_cs rfl rfl (by first | decide | exact Nat.le_of_ble_eq_true rfl) (by exact Nat.le_of_ble_eq_true rfl) (n_isQuantity q) ?_; dsimp only [Option.toList, List.drop, List.cons_append, List.nil_append])
    refine w_if1 rfl (fun _ => ?_) (fun h5 => absurd (c_eq0.mpr h0) h5)
    (repeat (first | refine w_iadd1 rfl ?_ | refine w_isub1 rfl ?_ | refine w_iinc1 rfl rfl ?_ | refine w_s rfl rfl ?_ | refine w_get rfl rfl rfl rfl ?_ | refine w_nnl rfl ?_ | refine w_nnlR rfl ?_ | refine w_nul rfl ?_ | refine w_nulR rfl ?_ | refine w_ldc rfl rfl ?_ | refine w_ldc2 rfl rfl ?_ | refine w_put rfl rfl rfl (Nat.le_of_ble_eq_true rfl) (Or.inl rfl) rfl rfl ?_))
    refine w_if1 rfl (fun h5 => absurd h5 (by first | exact k_eq1 | exact k_eq2)) (fun _ => ?_)
    (repeat (first | refine w_iadd1 rfl ?_ | refine w_isub1 rfl ?_ | refine w_iinc1 rfl rfl ?_ | refine w_s rfl rfl ?_ | refine w_get rfl rfl rfl rfl ?_ | refine w_nnl rfl ?_ | refine w_nnlR rfl ?_ | refine w_nul rfl ?_ | refine w_nulR rfl ?_ | refine w_ldc rfl rfl ?_ | refine w_ldc2 rfl rfl ?_ | refine w_put rfl rfl rfl (Nat.le_of_ble_eq_true rfl) (Or.inl rfl) rfl rfl ?_))
    (refine w_iret rfl rfl rfl ?_)
    rfl
  · rename_i h0
    have h9 := Decidable.not_not.mp h0
    have lp : ∀ (e k : Nat), k + e = m.makers → ax_wp ax_run M_Mo_best (fun r' => r' = ax_mout L xs c o pool u (.int (ax_bst c Fs q m.makers).1, (ax_Mo.u_thrown m 0))) 33 [(0, .ref 23), (1, .long q), (3, .int (ax_bst c Fs q k).1), (4, .long (ax_bst c Fs q k).2), (6, .int (nI k))] [] (ax_hp L xs c (ax_Mo.u_thrown m 0) o pool, u) := by
      intro e
      induction e with
      | zero =>
        intro k hk
        have : k = m.makers := by omega
        subst this
        (repeat (first | refine w_iadd1 rfl ?_ | refine w_isub1 rfl ?_ | refine w_iinc1 rfl rfl ?_ | refine w_s rfl rfl ?_ | refine w_get rfl rfl rfl rfl ?_ | refine w_nnl rfl ?_ | refine w_nnlR rfl ?_ | refine w_nul rfl ?_ | refine w_nulR rfl ?_ | refine w_ldc rfl rfl ?_ | refine w_ldc2 rfl rfl ?_ | refine w_put rfl rfl rfl (Nat.le_of_ble_eq_true rfl) (Or.inl rfl) rfl rfl ?_))
        refine w_if2 rfl (fun _ => ?_) (fun h5 => absurd ((cn_ge (a := m.makers) (b := m.makers) (by omega) (by omega)).mpr (Nat.le_refl _)) h5)
        (repeat (first | refine w_iadd1 rfl ?_ | refine w_isub1 rfl ?_ | refine w_iinc1 rfl rfl ?_ | refine w_s rfl rfl ?_ | refine w_get rfl rfl rfl rfl ?_ | refine w_nnl rfl ?_ | refine w_nnlR rfl ?_ | refine w_nul rfl ?_ | refine w_nulR rfl ?_ | refine w_ldc rfl rfl ?_ | refine w_ldc2 rfl rfl ?_ | refine w_put rfl rfl rfl (Nat.le_of_ble_eq_true rfl) (Or.inl rfl) rfl rfl ?_))
        (refine w_iret rfl rfl rfl ?_)
        rfl
      | succ e ih =>
        intro k hk
        have hN := hM.at_ k (by omega)
        have hn4 := hN.2.n4
        have ihk := ih (k + 1) (by omega)
        (repeat (first | refine w_iadd1 rfl ?_ | refine w_isub1 rfl ?_ | refine w_iinc1 rfl rfl ?_ | refine w_s rfl rfl ?_ | refine w_get rfl rfl rfl rfl ?_ | refine w_nnl rfl ?_ | refine w_nnlR rfl ?_ | refine w_nul rfl ?_ | refine w_nulR rfl ?_ | refine w_ldc rfl rfl ?_ | refine w_ldc2 rfl rfl ?_ | refine w_put rfl rfl rfl (Nat.le_of_ble_eq_true rfl) (Or.inl rfl) rfl rfl ?_))
        refine w_if2 rfl (fun h5 => absurd ((cn_ge (a := k) (b := m.makers) (by omega) (by omega)).mp h5) (by omega)) (fun _ => ?_)
        (repeat (first | refine w_iadd1 rfl ?_ | refine w_isub1 rfl ?_ | refine w_iinc1 rfl rfl ?_ | refine w_s rfl rfl ?_ | refine w_get rfl rfl rfl rfl ?_ | refine w_nnl rfl ?_ | refine w_nnlR rfl ?_ | refine w_nul rfl ?_ | refine w_nulR rfl ?_ | refine w_ldc rfl rfl ?_ | refine w_ldc2 rfl rfl ?_ | refine w_put rfl rfl rfl (Nat.le_of_ble_eq_true rfl) (Or.inl rfl) rfl rfl ?_))
        (refine w_cv rfl rfl rfl rfl (by exact Nat.le_of_ble_eq_true rfl) (by exact Nat.le_of_ble_eq_true rfl) (n_leastOf (m := (ax_Mo.u_thrown m 0)) hN.1.thr hN.2 hR.thr hb (by omega)) ?_; dsimp only [Option.toList, List.drop, List.cons_append, List.nil_append])
        (repeat (first | refine w_iadd1 rfl ?_ | refine w_isub1 rfl ?_ | refine w_iinc1 rfl rfl ?_ | refine w_s rfl rfl ?_ | refine w_get rfl rfl rfl rfl ?_ | refine w_nnl rfl ?_ | refine w_nnlR rfl ?_ | refine w_nul rfl ?_ | refine w_nulR rfl ?_ | refine w_ldc rfl rfl ?_ | refine w_ldc2 rfl rfl ?_ | refine w_put rfl rfl rfl (Nat.le_of_ble_eq_true rfl) (Or.inl rfl) rfl rfl ?_))
        rcases ax_least_r (c := c) hn4 with hl | ⟨b, hb1, hl⟩
        · rw [hl]
          refine w_if2 rfl (fun _ => ?_) (fun h5 => absurd rfl h5)
          (repeat ((fail_if_success (show ax_wp _ _ _ 33 _ _ _)); (first | refine w_iadd1 rfl ?_ | refine w_isub1 rfl ?_ | refine w_iinc1 rfl rfl ?_ | refine w_s rfl rfl ?_ | refine w_get rfl rfl rfl rfl ?_ | refine w_nnl rfl ?_ | refine w_nnlR rfl ?_ | refine w_nul rfl ?_ | refine w_nulR rfl ?_ | refine w_ldc rfl rfl ?_ | refine w_ldc2 rfl rfl ?_ | refine w_put rfl rfl rfl (Nat.le_of_ble_eq_true rfl) (Or.inl rfl) rfl rfl ?_)))
          have eb : ax_bst c Fs q (k + 1) = ax_bst c Fs q k := if_pos hl
          rw [eb] at ihk
          exact w_lv ihk rfl ⟨rfl, rfl, rfl, rfl, rfl, trivial⟩
        · have hbb : (nI b).toInt.toNat = b := by rw [q_nI' (by omega)]; rfl
          have hpr := n_priceOf (L := L) (xs := xs) (c := c) (m := (ax_Mo.u_thrown m 0)) (o := o) (pool := pool) (u := u) hN.1.thr hN.2 (by omega) b hb1 q h9
          have hpb := ax_pri_b (hN.2.gs b hb1) (q := q) h9
          have eb : ax_bst c Fs q (k + 1) = (if (ax_bst c Fs q k).1 = -1 ∨ ax_pri ((Fs k).g b) q < (ax_bst c Fs q k).2.toInt then (nI k, Int64.ofInt (ax_pri ((Fs k).g b) q)) else ax_bst c Fs q k) := by
            show (if ax_least c (Fs k) = -1 then _ else _) = _
            rw [if_neg (by rw [hl]; exact nI_ne (by omega)), hl, hbb]
          rw [eb] at ihk
          rw [hl]
          refine w_if2 rfl (fun h5 => absurd h5 (nI_ne (by omega))) (fun _ => ?_)
          (repeat (first | refine w_iadd1 rfl ?_ | refine w_isub1 rfl ?_ | refine w_iinc1 rfl rfl ?_ | refine w_s rfl rfl ?_ | refine w_get rfl rfl rfl rfl ?_ | refine w_nnl rfl ?_ | refine w_nnlR rfl ?_ | refine w_nul rfl ?_ | refine w_nulR rfl ?_ | refine w_ldc rfl rfl ?_ | refine w_ldc2 rfl rfl ?_ | refine w_put rfl rfl rfl (Nat.le_of_ble_eq_true rfl) (Or.inl rfl) rfl rfl ?_))
          refine w_if2 rfl (fun h5 => ?_) (fun h5 => ?_)
          · rw [if_pos (show (ax_bst c Fs q k).1 = -1 ∨ ax_pri ((Fs k).g b) q < (ax_bst c Fs q k).2.toInt from Or.inl h5)] at ihk
            (repeat (first | refine w_iadd1 rfl ?_ | refine w_isub1 rfl ?_ | refine w_iinc1 rfl rfl ?_ | refine w_s rfl rfl ?_ | refine w_get rfl rfl rfl rfl ?_ | refine w_nnl rfl ?_ | refine w_nnlR rfl ?_ | refine w_nul rfl ?_ | refine w_nulR rfl ?_ | refine w_ldc rfl rfl ?_ | refine w_ldc2 rfl rfl ?_ | refine w_put rfl rfl rfl (Nat.le_of_ble_eq_true rfl) (Or.inl rfl) rfl rfl ?_))
            (refine w_cv rfl rfl rfl rfl (by exact Nat.le_of_ble_eq_true rfl) (by exact Nat.le_of_ble_eq_true rfl) hpr ?_; dsimp only [Option.toList, List.drop, List.cons_append, List.nil_append])
            (repeat ((fail_if_success (show ax_wp _ _ _ 33 _ _ _)); (first | refine w_iadd1 rfl ?_ | refine w_isub1 rfl ?_ | refine w_iinc1 rfl rfl ?_ | refine w_s rfl rfl ?_ | refine w_get rfl rfl rfl rfl ?_ | refine w_nnl rfl ?_ | refine w_nnlR rfl ?_ | refine w_nul rfl ?_ | refine w_nulR rfl ?_ | refine w_ldc rfl rfl ?_ | refine w_ldc2 rfl rfl ?_ | refine w_put rfl rfl rfl (Nat.le_of_ble_eq_true rfl) (Or.inl rfl) rfl rfl ?_)))
            exact w_lv ihk rfl ⟨rfl, rfl, rfl, rfl, rfl, trivial⟩
          · (repeat (first | refine w_iadd1 rfl ?_ | refine w_isub1 rfl ?_ | refine w_iinc1 rfl rfl ?_ | refine w_s rfl rfl ?_ | refine w_get rfl rfl rfl rfl ?_ | refine w_nnl rfl ?_ | refine w_nnlR rfl ?_ | refine w_nul rfl ?_ | refine w_nulR rfl ?_ | refine w_ldc rfl rfl ?_ | refine w_ldc2 rfl rfl ?_ | refine w_put rfl rfl rfl (Nat.le_of_ble_eq_true rfl) (Or.inl rfl) rfl rfl ?_))
            (refine w_cv rfl rfl rfl rfl (by exact Nat.le_of_ble_eq_true rfl) (by exact Nat.le_of_ble_eq_true rfl) hpr ?_; dsimp only [Option.toList, List.drop, List.cons_append, List.nil_append])
            (repeat (first | refine w_iadd1 rfl ?_ | refine w_isub1 rfl ?_ | refine w_iinc1 rfl rfl ?_ | refine w_s rfl rfl ?_ | refine w_get rfl rfl rfl rfl ?_ | refine w_nnl rfl ?_ | refine w_nnlR rfl ?_ | refine w_nul rfl ?_ | refine w_nulR rfl ?_ | refine w_ldc rfl rfl ?_ | refine w_ldc2 rfl rfl ?_ | refine w_put rfl rfl rfl (Nat.le_of_ble_eq_true rfl) (Or.inl rfl) rfl rfl ?_))
            refine w_if1 rfl (fun h7 => ?_) (fun h7 => ?_)
            · have h8 := c_Llt.mp h7
              rw [q_ofIL (by omega) (by omega)] at h8
              rw [if_pos (show (ax_bst c Fs q k).1 = -1 ∨ ax_pri ((Fs k).g b) q < (ax_bst c Fs q k).2.toInt from Or.inr h8)] at ihk
              (repeat (first | refine w_iadd1 rfl ?_ | refine w_isub1 rfl ?_ | refine w_iinc1 rfl rfl ?_ | refine w_s rfl rfl ?_ | refine w_get rfl rfl rfl rfl ?_ | refine w_nnl rfl ?_ | refine w_nnlR rfl ?_ | refine w_nul rfl ?_ | refine w_nulR rfl ?_ | refine w_ldc rfl rfl ?_ | refine w_ldc2 rfl rfl ?_ | refine w_put rfl rfl rfl (Nat.le_of_ble_eq_true rfl) (Or.inl rfl) rfl rfl ?_))
              (refine w_cv rfl rfl rfl rfl (by exact Nat.le_of_ble_eq_true rfl) (by exact Nat.le_of_ble_eq_true rfl) hpr ?_; dsimp only [Option.toList, List.drop, List.cons_append, List.nil_append])
              (repeat ((fail_if_success (show ax_wp _ _ _ 33 _ _ _)); (first | refine w_iadd1 rfl ?_ | refine w_isub1 rfl ?_ | refine w_iinc1 rfl rfl ?_ | refine w_s rfl rfl ?_ | refine w_get rfl rfl rfl rfl ?_ | refine w_nnl rfl ?_ | refine w_nnlR rfl ?_ | refine w_nul rfl ?_ | refine w_nulR rfl ?_ | refine w_ldc rfl rfl ?_ | refine w_ldc2 rfl rfl ?_ | refine w_put rfl rfl rfl (Nat.le_of_ble_eq_true rfl) (Or.inl rfl) rfl rfl ?_)))
              exact w_lv ihk rfl ⟨rfl, rfl, rfl, rfl, rfl, trivial⟩
            · have h8 : ¬ (Int64.ofInt (ax_pri ((Fs k).g b) q)).toInt < (ax_bst c Fs q k).2.toInt := fun z => h7 (c_Llt.mpr z)
              rw [q_ofIL (by omega) (by omega)] at h8
              rw [if_neg (show ¬ ((ax_bst c Fs q k).1 = -1 ∨ ax_pri ((Fs k).g b) q < (ax_bst c Fs q k).2.toInt) from fun z => z.elim h5 h8)] at ihk
              (repeat ((fail_if_success (show ax_wp _ _ _ 33 _ _ _)); (first | refine w_iadd1 rfl ?_ | refine w_isub1 rfl ?_ | refine w_iinc1 rfl rfl ?_ | refine w_s rfl rfl ?_ | refine w_get rfl rfl rfl rfl ?_ | refine w_nnl rfl ?_ | refine w_nnlR rfl ?_ | refine w_nul rfl ?_ | refine w_nulR rfl ?_ | refine w_ldc rfl rfl ?_ | refine w_ldc2 rfl rfl ?_ | refine w_put rfl rfl rfl (Nat.le_of_ble_eq_true rfl) (Or.inl rfl) rfl rfl ?_)))
              exact w_lv ihk rfl ⟨rfl, rfl, rfl, rfl, rfl, trivial⟩
    (refine ax_run_T (ax_T_of M_Mo_best rfl (Nat.le_of_ble_eq_true rfl) ?_))
    (repeat (first | refine w_iadd1 rfl ?_ | refine w_isub1 rfl ?_ | refine w_iinc1 rfl rfl ?_ | refine w_s rfl rfl ?_ | refine w_get rfl rfl rfl rfl ?_ | refine w_nnl rfl ?_ | refine w_nnlR rfl ?_ | refine w_nul rfl ?_ | refine w_nulR rfl ?_ | refine w_ldc rfl rfl ?_ | refine w_ldc2 rfl rfl ?_ | refine w_put rfl rfl rfl (Nat.le_of_ble_eq_true rfl) (Or.inl rfl) rfl rfl ?_))
    (refine w_cs rfl rfl (by first | decide | exact Nat.le_of_ble_eq_true rfl) (by exact Nat.le_of_ble_eq_true rfl) (n_isQuantity q) ?_; dsimp only [Option.toList, List.drop, List.cons_append, List.nil_append])
    refine w_if1 rfl (fun h5 => absurd h9 (c_eq0.mp h5)) (fun _ => ?_)
    (repeat (first | refine w_iadd1 rfl ?_ | refine w_isub1 rfl ?_ | refine w_iinc1 rfl rfl ?_ | refine w_s rfl rfl ?_ | refine w_get rfl rfl rfl rfl ?_ | refine w_nnl rfl ?_ | refine w_nnlR rfl ?_ | refine w_nul rfl ?_ | refine w_nulR rfl ?_ | refine w_ldc rfl rfl ?_ | refine w_ldc2 rfl rfl ?_ | refine w_put rfl rfl rfl (Nat.le_of_ble_eq_true rfl) (Or.inl rfl) rfl rfl ?_))
    refine w_if1 rfl (fun _ => ?_) (fun h5 => absurd rfl h5)
    (repeat ((fail_if_success (show ax_wp _ _ _ 33 _ _ _)); (first | refine w_iadd1 rfl ?_ | refine w_isub1 rfl ?_ | refine w_iinc1 rfl rfl ?_ | refine w_s rfl rfl ?_ | refine w_get rfl rfl rfl rfl ?_ | refine w_nnl rfl ?_ | refine w_nnlR rfl ?_ | refine w_nul rfl ?_ | refine w_nulR rfl ?_ | refine w_ldc rfl rfl ?_ | refine w_ldc2 rfl rfl ?_ | refine w_put rfl rfl rfl (Nat.le_of_ble_eq_true rfl) (Or.inl rfl) rfl rfl ?_)))
    exact w_lv (lp m.makers 0 (by omega)) rfl ⟨rfl, rfl, rfl, rfl, rfl, trivial⟩
end MG
end
section
def ax_mcol (c : ax_St) (m : ax_Mo) (G : ax_Gr) : Nat → Nat × (Nat → Int32) × (Nat → Int64)
  | 0 => (0, m.remarkOf, m.excess)
  | t + 1 => if 0 < ax_ex c G t then ((ax_mcol c m G t).1 + 1, upd (ax_mcol c m G t).2.1 (ax_mcol c m G t).1 (nI t), vp_updL (ax_mcol c m G t).2.2 (ax_mcol c m G t).1 (Int64.ofInt (ax_ex c G t))) else ax_mcol c m G t
theorem ax_mcol_le (c : ax_St) (m : ax_Mo) (G : ax_Gr) : ∀ t, (ax_mcol c m G t).1 ≤ t := by
  intro t
  induction t with
  | zero => exact Nat.le_refl _
  | succ t ih =>
    unfold ax_mcol
    split
    · exact Nat.succ_le_succ ih
    · omega
def ax_mcst (c : ax_St) (m : ax_Mo) (G : ax_Gr) (t : Nat) : ax_Mo := (ax_Mo.u_excess (ax_Mo.u_remarkOf (ax_Mo.u_remarks (ax_Mo.u_thrown m 0) ((ax_mcol c m G t).1)) ((ax_mcol c m G t).2.1)) ((ax_mcol c m G t).2.2))
section MH
variable {L : Nat} {xs : Nat → Int32} {c : ax_St} {m : ax_Mo} {o : Nat → Int64} {pool : List (Option ax_C)} {u : Nat} {h : ax_H}
def mp_run (c : ax_St) (m : ax_Mo) (Fs : Nat → ax_Of) (k j : Int32) : Value × ax_Mo := if ¬ (0 ≤ k.toInt ∧ k.toInt < m.makers ∧ 0 ≤ j.toInt ∧ j.toInt < (Fs k.toInt.toNat).n) then (.int 0, (ax_Mo.u_thrown m 1)) else (.int (nI (ax_mcol c m ((Fs k.toInt.toNat).g j.toInt.toNat) c.bn).1), ax_mcst c m ((Fs k.toInt.toNat).g j.toInt.toNat) c.bn)
theorem n_run {Fs : Nat → ax_Of} (hM : MkRel m Fs) (hR : BRel c m) (hb : BoardOk c) (k j : Int32) : ax_run m_Mo_run [.ref 23, .int k, .int j] (ax_hp L xs c m o pool, u) (ax_mout L xs c o pool u (mp_run c m Fs k j)) := by
  have hn := hM.n
  have hbn := hb.n
  have hrn := hR.n
  unfold mp_run
  split
  · rename_i h0
    (refine ax_run_T (ax_T_of M_Mo_run rfl (Nat.le_of_ble_eq_true rfl) ?_))
    (repeat (first | refine w_iadd1 rfl ?_ | refine w_isub1 rfl ?_ | refine w_iinc1 rfl rfl ?_ | refine w_s rfl rfl ?_ | refine w_get rfl rfl rfl rfl ?_ | refine w_nnl rfl ?_ | refine w_nnlR rfl ?_ | refine w_nul rfl ?_ | refine w_nulR rfl ?_ | refine w_ldc rfl rfl ?_ | refine w_ldc2 rfl rfl ?_ | refine w_put rfl rfl rfl (Nat.le_of_ble_eq_true rfl) (Or.inl rfl) rfl rfl ?_))
    (refine w_cv rfl rfl rfl rfl (by exact Nat.le_of_ble_eq_true rfl) (by exact Nat.le_of_ble_eq_true rfl) (n_isClass hM k j) ?_; dsimp only [Option.toList, List.drop, List.cons_append, List.nil_append])
    refine w_if1 rfl (fun _ => ?_) (fun h5 => absurd (c_eq0.mpr h0) h5)
    (repeat (first | refine w_iadd1 rfl ?_ | refine w_isub1 rfl ?_ | refine w_iinc1 rfl rfl ?_ | refine w_s rfl rfl ?_ | refine w_get rfl rfl rfl rfl ?_ | refine w_nnl rfl ?_ | refine w_nnlR rfl ?_ | refine w_nul rfl ?_ | refine w_nulR rfl ?_ | refine w_ldc rfl rfl ?_ | refine w_ldc2 rfl rfl ?_ | refine w_put rfl rfl rfl (Nat.le_of_ble_eq_true rfl) (Or.inl rfl) rfl rfl ?_))
    refine w_if1 rfl (fun h5 => absurd h5 k_eq1) (fun _ => ?_)
    (repeat (first | refine w_iadd1 rfl ?_ | refine w_isub1 rfl ?_ | refine w_iinc1 rfl rfl ?_ | refine w_s rfl rfl ?_ | refine w_get rfl rfl rfl rfl ?_ | refine w_nnl rfl ?_ | refine w_nnlR rfl ?_ | refine w_nul rfl ?_ | refine w_nulR rfl ?_ | refine w_ldc rfl rfl ?_ | refine w_ldc2 rfl rfl ?_ | refine w_put rfl rfl rfl (Nat.le_of_ble_eq_true rfl) (Or.inl rfl) rfl rfl ?_))
    (refine w_iret rfl rfl rfl ?_)
    rfl
  · rename_i h0
    have h1 := Decidable.not_not.mp h0
    obtain ⟨n, rfl, hn1, hn2⟩ := q_nat (x := k) (by omega)
    obtain ⟨i, rfl, hi1, hi2⟩ := q_nat (x := j) (by omega)
    have hnn : (nI n).toInt.toNat = n := by rw [← hn1]; rfl
    have hii : (nI i).toInt.toNat = i := by rw [← hi1]; rfl
    have hN := hM.at_ n (by omega)
    have hin : i < (Fs n).n := by
      have := h1.2.2.2
      rw [hnn, ← hi1] at this
      omega
    rw [hnn, hii]
    have lp : ∀ (d t : Nat), t + d = c.bn → ax_wp ax_run M_Mo_run (fun r' => r' = ax_mout L xs c o pool u (.int (nI (ax_mcol c m ((Fs n).g i) c.bn).1), ax_mcst c m ((Fs n).g i) c.bn)) 34 [(0, .ref 23), (1, .int (nI n)), (2, .int (nI i)), (3, .int (nI t))] [] (ax_hp L xs c (ax_mcst c m ((Fs n).g i) t) o pool, u) := by
      intro d
      induction d with
      | zero =>
        intro t ht
        have : t = c.bn := by omega
        subst this
        (repeat (first | refine w_iadd1 rfl ?_ | refine w_isub1 rfl ?_ | refine w_iinc1 rfl rfl ?_ | refine w_s rfl rfl ?_ | refine w_get rfl rfl rfl rfl ?_ | refine w_nnl rfl ?_ | refine w_nnlR rfl ?_ | refine w_nul rfl ?_ | refine w_nulR rfl ?_ | refine w_ldc rfl rfl ?_ | refine w_ldc2 rfl rfl ?_ | refine w_put rfl rfl rfl (Nat.le_of_ble_eq_true rfl) (Or.inl rfl) rfl rfl ?_))
        refine w_if2 rfl (fun _ => ?_) (fun h5 => absurd ((cn_ge (a := c.bn) (b := m.things) (by omega) (by omega)).mpr (by omega)) h5)
        (repeat (first | refine w_iadd1 rfl ?_ | refine w_isub1 rfl ?_ | refine w_iinc1 rfl rfl ?_ | refine w_s rfl rfl ?_ | refine w_get rfl rfl rfl rfl ?_ | refine w_nnl rfl ?_ | refine w_nnlR rfl ?_ | refine w_nul rfl ?_ | refine w_nulR rfl ?_ | refine w_ldc rfl rfl ?_ | refine w_ldc2 rfl rfl ?_ | refine w_put rfl rfl rfl (Nat.le_of_ble_eq_true rfl) (Or.inl rfl) rfl rfl ?_))
        (refine w_iret rfl rfl rfl ?_)
        rfl
      | succ d ih =>
        intro t ht
        have hle := ax_mcol_le c m ((Fs n).g i) t
        have hx := ax_ex_b hb (hN.2.gs i hin) (t := t) (by omega)
        have hNt : NumAt (ax_mcst c m ((Fs n).g i) t) n (Fs n) := ⟨hN.1.cl, hN.1.lm, hN.1.st, hN.1.dy, hN.1.fr, hN.1.ce⟩
        have hRt : BRel c (ax_mcst c m ((Fs n).g i) t) := ⟨hR.n, hR.k, hR.v, hR.l, hR.x, hR.y⟩
        have hby := n_beyond (L := L) (xs := xs) (o := o) (pool := pool) (u := u) hNt hN.2 hRt hb (by omega) i t hin (by omega)
        have iht := ih (t + 1) (by omega)
        (repeat (first | refine w_iadd1 rfl ?_ | refine w_isub1 rfl ?_ | refine w_iinc1 rfl rfl ?_ | refine w_s rfl rfl ?_ | refine w_get rfl rfl rfl rfl ?_ | refine w_nnl rfl ?_ | refine w_nnlR rfl ?_ | refine w_nul rfl ?_ | refine w_nulR rfl ?_ | refine w_ldc rfl rfl ?_ | refine w_ldc2 rfl rfl ?_ | refine w_put rfl rfl rfl (Nat.le_of_ble_eq_true rfl) (Or.inl rfl) rfl rfl ?_))
        refine w_if2 rfl (fun h5 => absurd ((cn_ge (a := t) (b := m.things) (by omega) (by omega)).mp h5) (by omega)) (fun _ => ?_)
        (repeat (first | refine w_iadd1 rfl ?_ | refine w_isub1 rfl ?_ | refine w_iinc1 rfl rfl ?_ | refine w_s rfl rfl ?_ | refine w_get rfl rfl rfl rfl ?_ | refine w_nnl rfl ?_ | refine w_nnlR rfl ?_ | refine w_nul rfl ?_ | refine w_nulR rfl ?_ | refine w_ldc rfl rfl ?_ | refine w_ldc2 rfl rfl ?_ | refine w_put rfl rfl rfl (Nat.le_of_ble_eq_true rfl) (Or.inl rfl) rfl rfl ?_))
        (refine w_cv rfl rfl rfl rfl (by exact Nat.le_of_ble_eq_true rfl) (by exact Nat.le_of_ble_eq_true rfl) hby ?_; dsimp only [Option.toList, List.drop, List.cons_append, List.nil_append])
        (repeat (first | refine w_iadd1 rfl ?_ | refine w_isub1 rfl ?_ | refine w_iinc1 rfl rfl ?_ | refine w_s rfl rfl ?_ | refine w_get rfl rfl rfl rfl ?_ | refine w_nnl rfl ?_ | refine w_nnlR rfl ?_ | refine w_nul rfl ?_ | refine w_nulR rfl ?_ | refine w_ldc rfl rfl ?_ | refine w_ldc2 rfl rfl ?_ | refine w_put rfl rfl rfl (Nat.le_of_ble_eq_true rfl) (Or.inl rfl) rfl rfl ?_))
        refine w_if1 rfl (fun h7 => ?_) (fun h7 => ?_)
        · have h8 := c_Lgt.mp h7
          rw [q_ofIL (by omega) (by omega), q_ofNL] at h8
          have h9 : 0 < ax_ex c ((Fs n).g i) t := by omega
          (repeat (first | refine w_iadd1 rfl ?_ | refine w_isub1 rfl ?_ | refine w_iinc1 rfl rfl ?_ | refine w_s rfl rfl ?_ | refine w_get rfl rfl rfl rfl ?_ | refine w_nnl rfl ?_ | refine w_nnlR rfl ?_ | refine w_nul rfl ?_ | refine w_nulR rfl ?_ | refine w_ldc rfl rfl ?_ | refine w_ldc2 rfl rfl ?_ | refine w_put rfl rfl rfl (Nat.le_of_ble_eq_true rfl) (Or.inl rfl) rfl rfl ?_))
          refine w_ias rfl rfl rfl (by show (ax_mcol c m ((Fs n).g i) t).1 < 60; omega) (by decide) ?_
          (repeat (first | refine w_iadd1 rfl ?_ | refine w_isub1 rfl ?_ | refine w_iinc1 rfl rfl ?_ | refine w_s rfl rfl ?_ | refine w_get rfl rfl rfl rfl ?_ | refine w_nnl rfl ?_ | refine w_nnlR rfl ?_ | refine w_nul rfl ?_ | refine w_nulR rfl ?_ | refine w_ldc rfl rfl ?_ | refine w_ldc2 rfl rfl ?_ | refine w_put rfl rfl rfl (Nat.le_of_ble_eq_true rfl) (Or.inl rfl) rfl rfl ?_))
          have hNt2 : NumAt (ax_Mo.u_remarkOf (ax_mcst c m ((Fs n).g i) t) (upd (ax_mcol c m ((Fs n).g i) t).2.1 (ax_mcol c m ((Fs n).g i) t).1 (nI t))) n (Fs n) := ⟨hN.1.cl, hN.1.lm, hN.1.st, hN.1.dy, hN.1.fr, hN.1.ce⟩
          have hRt2 : BRel c (ax_Mo.u_remarkOf (ax_mcst c m ((Fs n).g i) t) (upd (ax_mcol c m ((Fs n).g i) t).2.1 (ax_mcol c m ((Fs n).g i) t).1 (nI t))) := ⟨hR.n, hR.k, hR.v, hR.l, hR.x, hR.y⟩
          (refine w_cv rfl rfl rfl rfl (by exact Nat.le_of_ble_eq_true rfl) (by exact Nat.le_of_ble_eq_true rfl) (n_beyond hNt2 hN.2 hRt2 hb (by omega) i t hin (by omega)) ?_; dsimp only [Option.toList, List.drop, List.cons_append, List.nil_append])
          refine w_las rfl rfl rfl (by show (ax_mcol c m ((Fs n).g i) t).1 < 60; omega) (by decide) ?_
          (repeat ((fail_if_success (show ax_wp _ _ _ 34 _ _ _)); (first | refine w_iadd1 rfl ?_ | refine w_isub1 rfl ?_ | refine w_iinc1 rfl rfl ?_ | refine w_s rfl rfl ?_ | refine w_get rfl rfl rfl rfl ?_ | refine w_nnl rfl ?_ | refine w_nnlR rfl ?_ | refine w_nul rfl ?_ | refine w_nulR rfl ?_ | refine w_ldc rfl rfl ?_ | refine w_ldc2 rfl rfl ?_ | refine w_put rfl rfl rfl (Nat.le_of_ble_eq_true rfl) (Or.inl rfl) rfl rfl ?_)))
          have e : ax_mcst c m ((Fs n).g i) (t + 1) = (ax_Mo.u_excess (ax_Mo.u_remarkOf (ax_Mo.u_remarks (ax_Mo.u_thrown m 0) ((ax_mcol c m ((Fs n).g i) t).1 + 1)) (upd (ax_mcol c m ((Fs n).g i) t).2.1 (ax_mcol c m ((Fs n).g i) t).1 (nI t))) (vp_updL (ax_mcol c m ((Fs n).g i) t).2.2 (ax_mcol c m ((Fs n).g i) t).1 (Int64.ofInt (ax_ex c ((Fs n).g i) t)))) := by
            unfold ax_mcst
            rw [show ax_mcol c m ((Fs n).g i) (t + 1) = _ from if_pos h9]
          rw [e] at iht
          exact w_lv iht rfl ⟨rfl, rfl, rfl, rfl, trivial⟩
        · have h8 : ¬ (Int64.ofNat 0).toInt < (Int64.ofInt (ax_ex c ((Fs n).g i) t)).toInt := fun z => h7 (c_Lgt.mpr z)
          rw [q_ofIL (by omega) (by omega), q_ofNL] at h8
          have h9 : ¬ 0 < ax_ex c ((Fs n).g i) t := by omega
          (repeat ((fail_if_success (show ax_wp _ _ _ 34 _ _ _)); (first | refine w_iadd1 rfl ?_ | refine w_isub1 rfl ?_ | refine w_iinc1 rfl rfl ?_ | refine w_s rfl rfl ?_ | refine w_get rfl rfl rfl rfl ?_ | refine w_nnl rfl ?_ | refine w_nnlR rfl ?_ | refine w_nul rfl ?_ | refine w_nulR rfl ?_ | refine w_ldc rfl rfl ?_ | refine w_ldc2 rfl rfl ?_ | refine w_put rfl rfl rfl (Nat.le_of_ble_eq_true rfl) (Or.inl rfl) rfl rfl ?_)))
          have e : ax_mcst c m ((Fs n).g i) (t + 1) = ax_mcst c m ((Fs n).g i) t := by
            unfold ax_mcst
            rw [show ax_mcol c m ((Fs n).g i) (t + 1) = ax_mcol c m ((Fs n).g i) t from if_neg h9]
          rw [e] at iht
          exact w_lv iht rfl ⟨rfl, rfl, rfl, rfl, trivial⟩
    (refine ax_run_T (ax_T_of M_Mo_run rfl (Nat.le_of_ble_eq_true rfl) ?_))
    (repeat (first | refine w_iadd1 rfl ?_ | refine w_isub1 rfl ?_ | refine w_iinc1 rfl rfl ?_ | refine w_s rfl rfl ?_ | refine w_get rfl rfl rfl rfl ?_ | refine w_nnl rfl ?_ | refine w_nnlR rfl ?_ | refine w_nul rfl ?_ | refine w_nulR rfl ?_ | refine w_ldc rfl rfl ?_ | refine w_ldc2 rfl rfl ?_ | refine w_put rfl rfl rfl (Nat.le_of_ble_eq_true rfl) (Or.inl rfl) rfl rfl ?_))
    (refine w_cv rfl rfl rfl rfl (by exact Nat.le_of_ble_eq_true rfl) (by exact Nat.le_of_ble_eq_true rfl) (n_isClass hM (nI n) (nI i)) ?_; dsimp only [Option.toList, List.drop, List.cons_append, List.nil_append])
    refine w_if1 rfl (fun h5 => absurd h1 (c_eq0.mp h5)) (fun _ => ?_)
    (repeat (first | refine w_iadd1 rfl ?_ | refine w_isub1 rfl ?_ | refine w_iinc1 rfl rfl ?_ | refine w_s rfl rfl ?_ | refine w_get rfl rfl rfl rfl ?_ | refine w_nnl rfl ?_ | refine w_nnlR rfl ?_ | refine w_nul rfl ?_ | refine w_nulR rfl ?_ | refine w_ldc rfl rfl ?_ | refine w_ldc2 rfl rfl ?_ | refine w_put rfl rfl rfl (Nat.le_of_ble_eq_true rfl) (Or.inl rfl) rfl rfl ?_))
    refine w_if1 rfl (fun _ => ?_) (fun h5 => absurd rfl h5)
    (repeat ((fail_if_success (show ax_wp _ _ _ 34 _ _ _)); (first | refine w_iadd1 rfl ?_ | refine w_isub1 rfl ?_ | refine w_iinc1 rfl rfl ?_ | refine w_s rfl rfl ?_ | refine w_get rfl rfl rfl rfl ?_ | refine w_nnl rfl ?_ | refine w_nnlR rfl ?_ | refine w_nul rfl ?_ | refine w_nulR rfl ?_ | refine w_ldc rfl rfl ?_ | refine w_ldc2 rfl rfl ?_ | refine w_put rfl rfl rfl (Nat.le_of_ble_eq_true rfl) (Or.inl rfl) rfl rfl ?_)))
    exact w_lv (lp c.bn 0 (by omega)) rfl ⟨rfl, rfl, rfl, rfl, trivial⟩
/-- copying the classes of one row to another -/
def ax_cpy (f : Nat → Int64) (a b n : Nat) : Nat → Int64 := fun j => if 64 * b ≤ j ∧ j < 64 * b + n then f (64 * a + (j - 64 * b)) else f j
theorem n_copy (a b : Nat) (ha : a < 15) (hb : b < 15) (hab : a ≠ b) : ax_run m_Mo_copyClasses [.ref 23, .int (nI a), .int (nI b)] (ax_hp L xs c m o pool, u) (.inl none, (ax_hp L xs c (ax_Mo.u_numbers (ax_Mo.u_classes m (upd m.classes b (m.classes a))) (ax_cpy m.numbers a b 64)) o pool, u)) := by
  have lp : ∀ (d k : Nat), k + d = 64 → ax_wp ax_run M_Mo_copyClasses (fun r' => r' = (.inl none, (ax_hp L xs c (ax_Mo.u_numbers (ax_Mo.u_classes m (upd m.classes b (m.classes a))) (ax_cpy m.numbers a b 64)) o pool, u))) 14 [(0, .ref 23), (1, .int (nI a)), (2, .int (nI b)), (3, .int (nI k))] [] (ax_hp L xs c (ax_Mo.u_numbers (ax_Mo.u_classes m (upd m.classes b (m.classes a))) (ax_cpy m.numbers a b k)) o pool, u) := by
    intro d
    induction d with
    | zero =>
      intro k hk
      have : k = 64 := by omega
      subst this
      (repeat (first | refine w_iadd1 rfl ?_ | refine w_isub1 rfl ?_ | refine w_iinc1 rfl rfl ?_ | refine w_s rfl rfl ?_ | refine w_get rfl rfl rfl rfl ?_ | refine w_nnl rfl ?_ | refine w_nnlR rfl ?_ | refine w_nul rfl ?_ | refine w_nulR rfl ?_ | refine w_ldc rfl rfl ?_ | refine w_ldc2 rfl rfl ?_ | refine w_put rfl rfl rfl (Nat.le_of_ble_eq_true rfl) (Or.inl rfl) rfl rfl ?_))
      refine w_if2 rfl (fun _ => ?_) (fun h5 => absurd ((cn_ge (a := 64) (b := 64) (by omega) (by omega)).mpr (by omega)) h5)
      exact w_vret rfl rfl rfl
    | succ d ih =>
      intro k hk
      have ihk := ih (k + 1) (by omega)
      (repeat (first | refine w_iadd1 rfl ?_ | refine w_isub1 rfl ?_ | refine w_iinc1 rfl rfl ?_ | refine w_s rfl rfl ?_ | refine w_get rfl rfl rfl rfl ?_ | refine w_nnl rfl ?_ | refine w_nnlR rfl ?_ | refine w_nul rfl ?_ | refine w_nulR rfl ?_ | refine w_ldc rfl rfl ?_ | refine w_ldc2 rfl rfl ?_ | refine w_put rfl rfl rfl (Nat.le_of_ble_eq_true rfl) (Or.inl rfl) rfl rfl ?_))
      refine w_if2 rfl (fun h5 => absurd ((cn_ge (a := k) (b := 64) (by omega) (by omega)).mp h5) (by omega)) (fun _ => ?_)
      (repeat (first | refine w_iadd1 rfl ?_ | refine w_isub1 rfl ?_ | refine w_iinc1 rfl rfl ?_ | refine w_s rfl rfl ?_ | refine w_get rfl rfl rfl rfl ?_ | refine w_nnl rfl ?_ | refine w_nnlR rfl ?_ | refine w_nul rfl ?_ | refine w_nulR rfl ?_ | refine w_ldc rfl rfl ?_ | refine w_ldc2 rfl rfl ?_ | refine w_put rfl rfl rfl (Nat.le_of_ble_eq_true rfl) (Or.inl rfl) rfl rfl ?_))
      (refine w_cs rfl rfl (by first | decide | exact Nat.le_of_ble_eq_true rfl) (by exact Nat.le_of_ble_eq_true rfl) (n_place b 0 (by omega) (by omega)) ?_; dsimp only [Option.toList, List.drop, List.cons_append, List.nil_append])
      (repeat (first | refine w_iadd1 rfl ?_ | refine w_isub1 rfl ?_ | refine w_iinc1 rfl rfl ?_ | refine w_s rfl rfl ?_ | refine w_get rfl rfl rfl rfl ?_ | refine w_nnl rfl ?_ | refine w_nnlR rfl ?_ | refine w_nul rfl ?_ | refine w_nulR rfl ?_ | refine w_ldc rfl rfl ?_ | refine w_ldc2 rfl rfl ?_ | refine w_put rfl rfl rfl (Nat.le_of_ble_eq_true rfl) (Or.inl rfl) rfl rfl ?_))
      (refine w_cs rfl rfl (by first | decide | exact Nat.le_of_ble_eq_true rfl) (by exact Nat.le_of_ble_eq_true rfl) (n_place a 0 (by omega) (by omega)) ?_; dsimp only [Option.toList, List.drop, List.cons_append, List.nil_append])
      (repeat (first | refine w_iadd1 rfl ?_ | refine w_isub1 rfl ?_ | refine w_iinc1 rfl rfl ?_ | refine w_s rfl rfl ?_ | refine w_get rfl rfl rfl rfl ?_ | refine w_nnl rfl ?_ | refine w_nnlR rfl ?_ | refine w_nul rfl ?_ | refine w_nulR rfl ?_ | refine w_ldc rfl rfl ?_ | refine w_ldc2 rfl rfl ?_ | refine w_put rfl rfl rfl (Nat.le_of_ble_eq_true rfl) (Or.inl rfl) rfl rfl ?_))
      refine w_la (j := 64 * a + 16 * 0 + k) rfl rfl (by (simp only [kb6, kb7, kb8, kb9, kb16, ki0, ki1, ki2, ki3, ki4, ki5, nI_addR, nI_mulR]; try (congr 1; omega))) (by omega) (by decide) ?_
      refine w_las (j := 64 * b + 16 * 0 + k) rfl rfl (by (simp only [kb6, kb7, kb8, kb9, kb16, ki0, ki1, ki2, ki3, ki4, ki5, nI_addR, nI_mulR]; try (congr 1; omega))) (by omega) (by decide) ?_
      (repeat ((fail_if_success (show ax_wp _ _ _ 14 _ _ _)); (first | refine w_iadd1 rfl ?_ | refine w_isub1 rfl ?_ | refine w_iinc1 rfl rfl ?_ | refine w_s rfl rfl ?_ | refine w_get rfl rfl rfl rfl ?_ | refine w_nnl rfl ?_ | refine w_nnlR rfl ?_ | refine w_nul rfl ?_ | refine w_nulR rfl ?_ | refine w_ldc rfl rfl ?_ | refine w_ldc2 rfl rfl ?_ | refine w_put rfl rfl rfl (Nat.le_of_ble_eq_true rfl) (Or.inl rfl) rfl rfl ?_)))
      have e : vp_updL (ax_cpy m.numbers a b k) (64 * b + 16 * 0 + k) (ax_cpy m.numbers a b k (64 * a + 16 * 0 + k)) = ax_cpy m.numbers a b (k + 1) := by
        funext j
        unfold vp_updL
        by_cases hj : j = 64 * b + 16 * 0 + k
        · rw [if_pos hj]
          subst hj
          unfold ax_cpy
          rw [if_neg (by omega), if_pos (by omega)]
          congr 1
          omega
        · rw [if_neg hj]
          unfold ax_cpy
          by_cases h2 : 64 * b ≤ j ∧ j < 64 * b + k
          · rw [if_pos h2, if_pos (by omega)]
          · rw [if_neg h2, if_neg (by omega)]
      rw [← e] at ihk
      exact w_lv ihk rfl ⟨rfl, rfl, rfl, rfl, trivial⟩
  (refine ax_run_T (ax_T_of M_Mo_copyClasses rfl (Nat.le_of_ble_eq_true rfl) ?_))
  (repeat (first | refine w_iadd1 rfl ?_ | refine w_isub1 rfl ?_ | refine w_iinc1 rfl rfl ?_ | refine w_s rfl rfl ?_ | refine w_get rfl rfl rfl rfl ?_ | refine w_nnl rfl ?_ | refine w_nnlR rfl ?_ | refine w_nul rfl ?_ | refine w_nulR rfl ?_ | refine w_ldc rfl rfl ?_ | refine w_ldc2 rfl rfl ?_ | refine w_put rfl rfl rfl (Nat.le_of_ble_eq_true rfl) (Or.inl rfl) rfl rfl ?_))
  refine w_ia rfl rfl rfl (by omega) (by decide) ?_
  refine w_ias rfl rfl rfl (by omega) (by decide) ?_
  (repeat ((fail_if_success (show ax_wp _ _ _ 14 _ _ _)); (first | refine w_iadd1 rfl ?_ | refine w_isub1 rfl ?_ | refine w_iinc1 rfl rfl ?_ | refine w_s rfl rfl ?_ | refine w_get rfl rfl rfl rfl ?_ | refine w_nnl rfl ?_ | refine w_nnlR rfl ?_ | refine w_nul rfl ?_ | refine w_nulR rfl ?_ | refine w_ldc rfl rfl ?_ | refine w_ldc2 rfl rfl ?_ | refine w_put rfl rfl rfl (Nat.le_of_ble_eq_true rfl) (Or.inl rfl) rfl rfl ?_)))
  have h0 := lp 64 0 (by omega)
  have e : ax_cpy m.numbers a b 0 = m.numbers := by
    funext j
    unfold ax_cpy
    rw [if_neg (by omega)]
  rw [e] at h0
  exact w_lv h0 rfl ⟨rfl, rfl, rfl, rfl, trivial⟩
def mp_quote (m : ax_Mo) (k : Int32) (d : Int64) : Value × ax_Mo := if ¬ (0 ≤ k.toInt ∧ k.toInt < m.makers) then (.int 0, (ax_Mo.u_thrown m 1)) else if m.quotes = 10 then (.int (-1), (ax_Mo.u_thrown m 0))
  else (.int (nI m.quotes), (ax_Mo.u_quotes (ax_Mo.u_until_ (ax_Mo.u_quoteMaker (ax_Mo.u_numbers (ax_Mo.u_classes (ax_Mo.u_thrown m 0) (upd m.classes (4 + m.quotes) (m.classes k.toInt.toNat))) (ax_cpy m.numbers k.toInt.toNat (4 + m.quotes) 64)) (upd m.quoteMaker m.quotes k)) (vp_updL m.until_ m.quotes d)) (m.quotes + 1)))
theorem n_quote (hn : m.makers ≤ 4) (hq : m.quotes ≤ 10) (k : Int32) (d : Int64) : ax_run m_Mo_quote [.ref 23, .int k, .long d] (ax_hp L xs c m o pool, u) (ax_mout L xs c o pool u (mp_quote m k d)) := by
  unfold mp_quote
  split
  · rename_i h0
    (refine ax_run_T (ax_T_of M_Mo_quote rfl (Nat.le_of_ble_eq_true rfl) ?_))
    (repeat (first | refine w_iadd1 rfl ?_ | refine w_isub1 rfl ?_ | refine w_iinc1 rfl rfl ?_ | refine w_s rfl rfl ?_ | refine w_get rfl rfl rfl rfl ?_ | refine w_nnl rfl ?_ | refine w_nnlR rfl ?_ | refine w_nul rfl ?_ | refine w_nulR rfl ?_ | refine w_ldc rfl rfl ?_ | refine w_ldc2 rfl rfl ?_ | refine w_put rfl rfl rfl (Nat.le_of_ble_eq_true rfl) (Or.inl rfl) rfl rfl ?_))
    (refine w_cv rfl rfl rfl rfl (by exact Nat.le_of_ble_eq_true rfl) (by exact Nat.le_of_ble_eq_true rfl) (n_isMaker k hn) ?_; dsimp only [Option.toList, List.drop, List.cons_append, List.nil_append])
    refine w_if1 rfl (fun _ => ?_) (fun h5 => absurd (c_eq0.mpr h0) h5)
    (repeat (first | refine w_iadd1 rfl ?_ | refine w_isub1 rfl ?_ | refine w_iinc1 rfl rfl ?_ | refine w_s rfl rfl ?_ | refine w_get rfl rfl rfl rfl ?_ | refine w_nnl rfl ?_ | refine w_nnlR rfl ?_ | refine w_nul rfl ?_ | refine w_nulR rfl ?_ | refine w_ldc rfl rfl ?_ | refine w_ldc2 rfl rfl ?_ | refine w_put rfl rfl rfl (Nat.le_of_ble_eq_true rfl) (Or.inl rfl) rfl rfl ?_))
    refine w_if1 rfl (fun h5 => absurd h5 k_eq1) (fun _ => ?_)
    (repeat (first | refine w_iadd1 rfl ?_ | refine w_isub1 rfl ?_ | refine w_iinc1 rfl rfl ?_ | refine w_s rfl rfl ?_ | refine w_get rfl rfl rfl rfl ?_ | refine w_nnl rfl ?_ | refine w_nnlR rfl ?_ | refine w_nul rfl ?_ | refine w_nulR rfl ?_ | refine w_ldc rfl rfl ?_ | refine w_ldc2 rfl rfl ?_ | refine w_put rfl rfl rfl (Nat.le_of_ble_eq_true rfl) (Or.inl rfl) rfl rfl ?_))
    (refine w_iret rfl rfl rfl ?_)
    rfl
  · rename_i h0
    have h1 := Decidable.not_not.mp h0
    obtain ⟨n, rfl, hn1, hn2⟩ := q_nat (x := k) (by omega)
    have hnn : (nI n).toInt.toNat = n := by rw [← hn1]; rfl
    rw [hnn]
    have hnm : n < m.makers := by omega
    clear hnn hn1
    split
    · rename_i h2
      (refine ax_run_T (ax_T_of M_Mo_quote rfl (Nat.le_of_ble_eq_true rfl) ?_))
      (repeat (first | refine w_iadd1 rfl ?_ | refine w_isub1 rfl ?_ | refine w_iinc1 rfl rfl ?_ | refine w_s rfl rfl ?_ | refine w_get rfl rfl rfl rfl ?_ | refine w_nnl rfl ?_ | refine w_nnlR rfl ?_ | refine w_nul rfl ?_ | refine w_nulR rfl ?_ | refine w_ldc rfl rfl ?_ | refine w_ldc2 rfl rfl ?_ | refine w_put rfl rfl rfl (Nat.le_of_ble_eq_true rfl) (Or.inl rfl) rfl rfl ?_))
      (refine w_cv rfl rfl rfl rfl (by exact Nat.le_of_ble_eq_true rfl) (by exact Nat.le_of_ble_eq_true rfl) (n_isMaker (nI n) hn) ?_; dsimp only [Option.toList, List.drop, List.cons_append, List.nil_append])
      refine w_if1 rfl (fun h5 => absurd h1 (c_eq0.mp h5)) (fun _ => ?_)
      (repeat (first | refine w_iadd1 rfl ?_ | refine w_isub1 rfl ?_ | refine w_iinc1 rfl rfl ?_ | refine w_s rfl rfl ?_ | refine w_get rfl rfl rfl rfl ?_ | refine w_nnl rfl ?_ | refine w_nnlR rfl ?_ | refine w_nul rfl ?_ | refine w_nulR rfl ?_ | refine w_ldc rfl rfl ?_ | refine w_ldc2 rfl rfl ?_ | refine w_put rfl rfl rfl (Nat.le_of_ble_eq_true rfl) (Or.inl rfl) rfl rfl ?_))
      refine w_if1 rfl (fun _ => ?_) (fun h5 => absurd rfl h5)
      (repeat (first | refine w_iadd1 rfl ?_ | refine w_isub1 rfl ?_ | refine w_iinc1 rfl rfl ?_ | refine w_s rfl rfl ?_ | refine w_get rfl rfl rfl rfl ?_ | refine w_nnl rfl ?_ | refine w_nnlR rfl ?_ | refine w_nul rfl ?_ | refine w_nulR rfl ?_ | refine w_ldc rfl rfl ?_ | refine w_ldc2 rfl rfl ?_ | refine w_put rfl rfl rfl (Nat.le_of_ble_eq_true rfl) (Or.inl rfl) rfl rfl ?_))
      refine w_if2 rfl (fun h5 => absurd h2 ((cn_ne (a := m.quotes) (b := 10) (by omega) (by omega)).mp h5)) (fun _ => ?_)
      (repeat (first | refine w_iadd1 rfl ?_ | refine w_isub1 rfl ?_ | refine w_iinc1 rfl rfl ?_ | refine w_s rfl rfl ?_ | refine w_get rfl rfl rfl rfl ?_ | refine w_nnl rfl ?_ | refine w_nnlR rfl ?_ | refine w_nul rfl ?_ | refine w_nulR rfl ?_ | refine w_ldc rfl rfl ?_ | refine w_ldc2 rfl rfl ?_ | refine w_put rfl rfl rfl (Nat.le_of_ble_eq_true rfl) (Or.inl rfl) rfl rfl ?_))
      (refine w_iret rfl rfl rfl ?_)
      rfl
    · rename_i h2
      (refine ax_run_T (ax_T_of M_Mo_quote rfl (Nat.le_of_ble_eq_true rfl) ?_))
      (repeat (first | refine w_iadd1 rfl ?_ | refine w_isub1 rfl ?_ | refine w_iinc1 rfl rfl ?_ | refine w_s rfl rfl ?_ | refine w_get rfl rfl rfl rfl ?_ | refine w_nnl rfl ?_ | refine w_nnlR rfl ?_ | refine w_nul rfl ?_ | refine w_nulR rfl ?_ | refine w_ldc rfl rfl ?_ | refine w_ldc2 rfl rfl ?_ | refine w_put rfl rfl rfl (Nat.le_of_ble_eq_true rfl) (Or.inl rfl) rfl rfl ?_))
      (refine w_cv rfl rfl rfl rfl (by exact Nat.le_of_ble_eq_true rfl) (by exact Nat.le_of_ble_eq_true rfl) (n_isMaker (nI n) hn) ?_; dsimp only [Option.toList, List.drop, List.cons_append, List.nil_append])
      refine w_if1 rfl (fun h5 => absurd h1 (c_eq0.mp h5)) (fun _ => ?_)
      (repeat (first | refine w_iadd1 rfl ?_ | refine w_isub1 rfl ?_ | refine w_iinc1 rfl rfl ?_ | refine w_s rfl rfl ?_ | refine w_get rfl rfl rfl rfl ?_ | refine w_nnl rfl ?_ | refine w_nnlR rfl ?_ | refine w_nul rfl ?_ | refine w_nulR rfl ?_ | refine w_ldc rfl rfl ?_ | refine w_ldc2 rfl rfl ?_ | refine w_put rfl rfl rfl (Nat.le_of_ble_eq_true rfl) (Or.inl rfl) rfl rfl ?_))
      refine w_if1 rfl (fun _ => ?_) (fun h5 => absurd rfl h5)
      (repeat (first | refine w_iadd1 rfl ?_ | refine w_isub1 rfl ?_ | refine w_iinc1 rfl rfl ?_ | refine w_s rfl rfl ?_ | refine w_get rfl rfl rfl rfl ?_ | refine w_nnl rfl ?_ | refine w_nnlR rfl ?_ | refine w_nul rfl ?_ | refine w_nulR rfl ?_ | refine w_ldc rfl rfl ?_ | refine w_ldc2 rfl rfl ?_ | refine w_put rfl rfl rfl (Nat.le_of_ble_eq_true rfl) (Or.inl rfl) rfl rfl ?_))
      refine w_if2 rfl (fun _ => ?_) (fun h5 => absurd ((cn_ne (a := m.quotes) (b := 10) (by omega) (by omega)).mpr h2) h5)
      (repeat ((fail_if_success (show ax_wp _ _ _ 45 _ _ _)); (first | refine w_iadd1 rfl ?_ | refine w_isub1 rfl ?_ | refine w_iinc1 rfl rfl ?_ | refine w_s rfl rfl ?_ | refine w_get rfl rfl rfl rfl ?_ | refine w_nnl rfl ?_ | refine w_nnlR rfl ?_ | refine w_nul rfl ?_ | refine w_nulR rfl ?_ | refine w_ldc rfl rfl ?_ | refine w_ldc2 rfl rfl ?_ | refine w_put rfl rfl rfl (Nat.le_of_ble_eq_true rfl) (Or.inl rfl) rfl rfl ?_)))
      refine w_eqI (y := nI (4 + m.quotes)) (by (simp only [kb6, kb7, kb8, kb9, kb16, ki0, ki1, ki2, ki3, ki4, ki5, nI_addR, nI_mulR]; try (congr 1; omega))) ?_
      (refine w_cv rfl rfl rfl rfl (by exact Nat.le_of_ble_eq_true rfl) (by exact Nat.le_of_ble_eq_true rfl) (n_copy (m := (ax_Mo.u_thrown m 0)) n (4 + m.quotes) (by omega) (by omega) (by omega)) ?_; dsimp only [Option.toList, List.drop, List.cons_append, List.nil_append])
      (repeat (first | refine w_iadd1 rfl ?_ | refine w_isub1 rfl ?_ | refine w_iinc1 rfl rfl ?_ | refine w_s rfl rfl ?_ | refine w_get rfl rfl rfl rfl ?_ | refine w_nnl rfl ?_ | refine w_nnlR rfl ?_ | refine w_nul rfl ?_ | refine w_nulR rfl ?_ | refine w_ldc rfl rfl ?_ | refine w_ldc2 rfl rfl ?_ | refine w_put rfl rfl rfl (Nat.le_of_ble_eq_true rfl) (Or.inl rfl) rfl rfl ?_))
      refine w_ias rfl rfl rfl (by show m.quotes < 10; omega) (by decide) ?_
      (repeat (first | refine w_iadd1 rfl ?_ | refine w_isub1 rfl ?_ | refine w_iinc1 rfl rfl ?_ | refine w_s rfl rfl ?_ | refine w_get rfl rfl rfl rfl ?_ | refine w_nnl rfl ?_ | refine w_nnlR rfl ?_ | refine w_nul rfl ?_ | refine w_nulR rfl ?_ | refine w_ldc rfl rfl ?_ | refine w_ldc2 rfl rfl ?_ | refine w_put rfl rfl rfl (Nat.le_of_ble_eq_true rfl) (Or.inl rfl) rfl rfl ?_))
      refine w_las rfl rfl rfl (by show m.quotes < 10; omega) (by decide) ?_
      (repeat (first | refine w_iadd1 rfl ?_ | refine w_isub1 rfl ?_ | refine w_iinc1 rfl rfl ?_ | refine w_s rfl rfl ?_ | refine w_get rfl rfl rfl rfl ?_ | refine w_nnl rfl ?_ | refine w_nnlR rfl ?_ | refine w_nul rfl ?_ | refine w_nulR rfl ?_ | refine w_ldc rfl rfl ?_ | refine w_ldc2 rfl rfl ?_ | refine w_put rfl rfl rfl (Nat.le_of_ble_eq_true rfl) (Or.inl rfl) rfl rfl ?_))
      (refine w_iret rfl rfl rfl ?_)
      rfl
end MH
end
section
abbrev MqRel (c : ax_St) (m : ax_Mo) (Qs : Nat → ax_Of) : Prop := (m.quotes = c.qn) ∧ (c.qn ≤ 10) ∧ (∀ q, q < c.qn → m.quoteMaker q = c.qm q) ∧ (∀ q, q < c.qn → m.until_ q = c.qu q) ∧ (∀ q, q < c.qn → NumAt m (4 + q) (Qs q) ∧ OfferOk (Qs q))
theorem MqRel.n {c : ax_St} {m : ax_Mo} {Qs : Nat → ax_Of} (h_ : MqRel c m Qs) : m.quotes = c.qn := h_.1
theorem MqRel.n10 {c : ax_St} {m : ax_Mo} {Qs : Nat → ax_Of} (h_ : MqRel c m Qs) : c.qn ≤ 10 := h_.2.1
theorem MqRel.mkr {c : ax_St} {m : ax_Mo} {Qs : Nat → ax_Of} (h_ : MqRel c m Qs) : ∀ q, q < c.qn → m.quoteMaker q = c.qm q := h_.2.2.1
theorem MqRel.un {c : ax_St} {m : ax_Mo} {Qs : Nat → ax_Of} (h_ : MqRel c m Qs) : ∀ q, q < c.qn → m.until_ q = c.qu q := h_.2.2.2.1
theorem MqRel.at_ {c : ax_St} {m : ax_Mo} {Qs : Nat → ax_Of} (h_ : MqRel c m Qs) : ∀ q, q < c.qn → NumAt m (4 + q) (Qs q) ∧ OfferOk (Qs q) := h_.2.2.2.2
def ax_mrow (f : Nat → Int64) (r : Nat) (k cl : Int32) (q dy p : Int64) (l : Int64) : Nat → Int64 :=
  vp_updL (vp_updL (vp_updL (vp_updL (vp_updL (vp_updL (vp_updL f r k.toInt64) (r + 1) cl.toInt64) (r + 2) q) (r + 3) dy) (r + 4) (p / 1000)) (r + 5) (p - p / 1000 * 1000)) (r + 6) l
theorem q_pred (n : Nat) (h : n ≤ 10) : (nI n - Int32.ofInt 1).toInt = (n : Int) - 1 := by
  rw [q_sub, q_nI, q_ofI]
  omega
section MI
variable {L : Nat} {xs : Nat → Int32} {c : ax_St} {m : ax_Mo} {o : Nat → Int64} {pool : List (Option ax_C)} {u : Nat} {h : ax_H}
/-- the row of the offer that counts -/
def ax_prow (n : Nat) (l : Int32) : Nat := if l.toInt < 0 then n else 4 + l.toInt.toNat
def mp_order2 (c : ax_St) (m : ax_Mo) (k : Int32) (q : Int64) (l : Int32) (F : ax_Of) (p : Nat) : Value × ax_Mo :=
  if m.orders = 20 ∨ ax_least c F = -1 then (.int (-1), (ax_Mo.u_thrown m 0))
  else (.int (nI m.orders), (ax_Mo.u_orders (ax_Mo.u_orderRow (ax_Mo.u_thrown m 0) (ax_mrow m.orderRow (7 * m.orders) k (ax_least c F) q (m.numbers (64 * p + 16 * (ax_least c F).toInt.toNat + 7)) (Int64.ofInt (ax_pri (F.g (ax_least c F).toInt.toNat) q)) (if l.toInt < 0 then -1 else l.toInt64))) (m.orders + 1)))
def mp_order (c : ax_St) (m : ax_Mo) (Fs Qs : Nat → ax_Of) (k : Int32) (q d : Int64) : Value × ax_Mo :=
  if ¬ (0 ≤ k.toInt ∧ k.toInt < m.makers) then (.int 0, (ax_Mo.u_thrown m 1)) else if ¬ (1 ≤ q.toInt ∧ q.toInt ≤ 1000000) then (.int 0, (ax_Mo.u_thrown m 2))
  else mp_order2 c m k q (ax_latest c k d) (ax_ofr c Fs Qs k.toInt.toNat (ax_latest c k d)) (ax_prow k.toInt.toNat (ax_latest c k d))
theorem n_order2 {F : ax_Of} {p : Nat} (hN : NumAt m p F) (hok : OfferOk F) (hR : BRel c m) (hb : BoardOk c) (ho : m.orders ≤ 20) (hp : p < 15) (k : Nat) (q : Int64) (hq : 1 ≤ q.toInt ∧ q.toInt ≤ 1000000) (l : Int32) :
    ax_wp ax_run M_Mo_order (fun r' => r' = ax_mout L xs c o pool u (mp_order2 c m (nI k) q l F p)) 95 [(0, .ref 23), (1, .int (nI k)), (2, .long q), (6, .int l), (7, .int (nI p))] [] (ax_hp L xs c (ax_Mo.u_thrown m 0) o pool, u) := by
  have hn4 := hok.n4
  (repeat (first | refine w_iadd1 rfl ?_ | refine w_isub1 rfl ?_ | refine w_iinc1 rfl rfl ?_ | refine w_s rfl rfl ?_ | refine w_get rfl rfl rfl rfl ?_ | refine w_nnl rfl ?_ | refine w_nnlR rfl ?_ | refine w_nul rfl ?_ | refine w_nulR rfl ?_ | refine w_ldc rfl rfl ?_ | refine w_ldc2 rfl rfl ?_ | refine w_put rfl rfl rfl (Nat.le_of_ble_eq_true rfl) (Or.inl rfl) rfl rfl ?_))
  (refine w_cv rfl rfl rfl rfl (by exact Nat.le_of_ble_eq_true rfl) (by exact Nat.le_of_ble_eq_true rfl) (n_leastOf (m := (ax_Mo.u_thrown m 0)) hN.thr hok hR.thr hb hp) ?_; dsimp only [Option.toList, List.drop, List.cons_append, List.nil_append])
  (repeat (first | refine w_iadd1 rfl ?_ | refine w_isub1 rfl ?_ | refine w_iinc1 rfl rfl ?_ | refine w_s rfl rfl ?_ | refine w_get rfl rfl rfl rfl ?_ | refine w_nnl rfl ?_ | refine w_nnlR rfl ?_ | refine w_nul rfl ?_ | refine w_nulR rfl ?_ | refine w_ldc rfl rfl ?_ | refine w_ldc2 rfl rfl ?_ | refine w_put rfl rfl rfl (Nat.le_of_ble_eq_true rfl) (Or.inl rfl) rfl rfl ?_))
  unfold mp_order2
  refine w_if2 rfl (fun h5 => ?_) (fun h5 => ?_)
  · have h6 : m.orders = 20 := (cn_eq (a := m.orders) (b := 20) (by omega) (by omega)).mp h5
    rw [if_pos (Or.inl h6)]
    (repeat (first | refine w_iadd1 rfl ?_ | refine w_isub1 rfl ?_ | refine w_iinc1 rfl rfl ?_ | refine w_s rfl rfl ?_ | refine w_get rfl rfl rfl rfl ?_ | refine w_nnl rfl ?_ | refine w_nnlR rfl ?_ | refine w_nul rfl ?_ | refine w_nulR rfl ?_ | refine w_ldc rfl rfl ?_ | refine w_ldc2 rfl rfl ?_ | refine w_put rfl rfl rfl (Nat.le_of_ble_eq_true rfl) (Or.inl rfl) rfl rfl ?_))
    (refine w_iret rfl rfl rfl ?_)
    rfl
  · have h6 : ¬ m.orders = 20 := fun z => h5 ((cn_eq (a := m.orders) (b := 20) (by omega) (by omega)).mpr z)
    (repeat (first | refine w_iadd1 rfl ?_ | refine w_isub1 rfl ?_ | refine w_iinc1 rfl rfl ?_ | refine w_s rfl rfl ?_ | refine w_get rfl rfl rfl rfl ?_ | refine w_nnl rfl ?_ | refine w_nnlR rfl ?_ | refine w_nul rfl ?_ | refine w_nulR rfl ?_ | refine w_ldc rfl rfl ?_ | refine w_ldc2 rfl rfl ?_ | refine w_put rfl rfl rfl (Nat.le_of_ble_eq_true rfl) (Or.inl rfl) rfl rfl ?_))
    refine w_if2 rfl (fun h7 => ?_) (fun h7 => ?_)
    · have h8 : ¬ ax_least c F = -1 := h7
      rw [if_neg (fun z => z.elim h6 h8)]
      rcases ax_least_r (c := c) hn4 with hl | ⟨b, hb1, hl⟩
      · exact absurd hl h8
      · have hbb : (nI b).toInt.toNat = b := by rw [q_nI' (by omega)]; rfl
        rw [hl, hbb]
        clear hbb
        (repeat ((fail_if_success (show ax_wp _ _ _ 127 _ _ _)); (first | refine w_iadd1 rfl ?_ | refine w_isub1 rfl ?_ | refine w_iinc1 rfl rfl ?_ | refine w_s rfl rfl ?_ | refine w_get rfl rfl rfl rfl ?_ | refine w_nnl rfl ?_ | refine w_nnlR rfl ?_ | refine w_nul rfl ?_ | refine w_nulR rfl ?_ | refine w_ldc rfl rfl ?_ | refine w_ldc2 rfl rfl ?_ | refine w_put rfl rfl rfl (Nat.le_of_ble_eq_true rfl) (Or.inl rfl) rfl rfl ?_)))
        refine w_eqI (y := nI (7 * m.orders)) (by (simp only [kb6, kb7, kb8, kb9, kb16, ki0, ki1, ki2, ki3, ki4, ki5, nI_addR, nI_mulR]; try (congr 1; omega))) ?_
        (repeat (first | refine w_iadd1 rfl ?_ | refine w_isub1 rfl ?_ | refine w_iinc1 rfl rfl ?_ | refine w_s rfl rfl ?_ | refine w_get rfl rfl rfl rfl ?_ | refine w_nnl rfl ?_ | refine w_nnlR rfl ?_ | refine w_nul rfl ?_ | refine w_nulR rfl ?_ | refine w_ldc rfl rfl ?_ | refine w_ldc2 rfl rfl ?_ | refine w_put rfl rfl rfl (Nat.le_of_ble_eq_true rfl) (Or.inl rfl) rfl rfl ?_))
        (refine w_cv rfl rfl rfl rfl (by exact Nat.le_of_ble_eq_true rfl) (by exact Nat.le_of_ble_eq_true rfl) (n_priceOf (m := (ax_Mo.u_thrown m 0)) hN.thr hok hp b hb1 q hq) ?_; dsimp only [Option.toList, List.drop, List.cons_append, List.nil_append])
        (repeat (first | refine w_iadd1 rfl ?_ | refine w_isub1 rfl ?_ | refine w_iinc1 rfl rfl ?_ | refine w_s rfl rfl ?_ | refine w_get rfl rfl rfl rfl ?_ | refine w_nnl rfl ?_ | refine w_nnlR rfl ?_ | refine w_nul rfl ?_ | refine w_nulR rfl ?_ | refine w_ldc rfl rfl ?_ | refine w_ldc2 rfl rfl ?_ | refine w_put rfl rfl rfl (Nat.le_of_ble_eq_true rfl) (Or.inl rfl) rfl rfl ?_))
        refine w_las rfl rfl rfl (by omega) (by decide) ?_
        (repeat (first | refine w_iadd1 rfl ?_ | refine w_isub1 rfl ?_ | refine w_iinc1 rfl rfl ?_ | refine w_s rfl rfl ?_ | refine w_get rfl rfl rfl rfl ?_ | refine w_nnl rfl ?_ | refine w_nnlR rfl ?_ | refine w_nul rfl ?_ | refine w_nulR rfl ?_ | refine w_ldc rfl rfl ?_ | refine w_ldc2 rfl rfl ?_ | refine w_put rfl rfl rfl (Nat.le_of_ble_eq_true rfl) (Or.inl rfl) rfl rfl ?_))
        refine w_las (j := 7 * m.orders + 1) rfl rfl rfl (by omega) (by decide) ?_
        (repeat (first | refine w_iadd1 rfl ?_ | refine w_isub1 rfl ?_ | refine w_iinc1 rfl rfl ?_ | refine w_s rfl rfl ?_ | refine w_get rfl rfl rfl rfl ?_ | refine w_nnl rfl ?_ | refine w_nnlR rfl ?_ | refine w_nul rfl ?_ | refine w_nulR rfl ?_ | refine w_ldc rfl rfl ?_ | refine w_ldc2 rfl rfl ?_ | refine w_put rfl rfl rfl (Nat.le_of_ble_eq_true rfl) (Or.inl rfl) rfl rfl ?_))
        refine w_las (j := 7 * m.orders + 2) rfl rfl (by (simp only [kb6, kb7, kb8, kb9, kb16, ki0, ki1, ki2, ki3, ki4, ki5, nI_addR, nI_mulR]; try (congr 1; omega))) (by omega) (by decide) ?_
        (repeat (first | refine w_iadd1 rfl ?_ | refine w_isub1 rfl ?_ | refine w_iinc1 rfl rfl ?_ | refine w_s rfl rfl ?_ | refine w_get rfl rfl rfl rfl ?_ | refine w_nnl rfl ?_ | refine w_nnlR rfl ?_ | refine w_nul rfl ?_ | refine w_nulR rfl ?_ | refine w_ldc rfl rfl ?_ | refine w_ldc2 rfl rfl ?_ | refine w_put rfl rfl rfl (Nat.le_of_ble_eq_true rfl) (Or.inl rfl) rfl rfl ?_))
        (refine w_cs rfl rfl (by first | decide | exact Nat.le_of_ble_eq_true rfl) (by exact Nat.le_of_ble_eq_true rfl) (n_place p b (by omega) (by omega)) ?_; dsimp only [Option.toList, List.drop, List.cons_append, List.nil_append])
        (repeat (first | refine w_iadd1 rfl ?_ | refine w_isub1 rfl ?_ | refine w_iinc1 rfl rfl ?_ | refine w_s rfl rfl ?_ | refine w_get rfl rfl rfl rfl ?_ | refine w_nnl rfl ?_ | refine w_nnlR rfl ?_ | refine w_nul rfl ?_ | refine w_nulR rfl ?_ | refine w_ldc rfl rfl ?_ | refine w_ldc2 rfl rfl ?_ | refine w_put rfl rfl rfl (Nat.le_of_ble_eq_true rfl) (Or.inl rfl) rfl rfl ?_))
        refine w_la (j := 64 * p + 16 * b + 7) rfl rfl (by (simp only [kb6, kb7, kb8, kb9, kb16, ki0, ki1, ki2, ki3, ki4, ki5, nI_addR, nI_mulR]; try (congr 1; omega))) (by omega) (by decide) ?_
        refine w_las (j := 7 * m.orders + 3) rfl rfl (by (simp only [kb6, kb7, kb8, kb9, kb16, ki0, ki1, ki2, ki3, ki4, ki5, nI_addR, nI_mulR]; try (congr 1; omega))) (by omega) (by decide) ?_
        (repeat (first | refine w_iadd1 rfl ?_ | refine w_isub1 rfl ?_ | refine w_iinc1 rfl rfl ?_ | refine w_s rfl rfl ?_ | refine w_get rfl rfl rfl rfl ?_ | refine w_nnl rfl ?_ | refine w_nnlR rfl ?_ | refine w_nul rfl ?_ | refine w_nulR rfl ?_ | refine w_ldc rfl rfl ?_ | refine w_ldc2 rfl rfl ?_ | refine w_put rfl rfl rfl (Nat.le_of_ble_eq_true rfl) (Or.inl rfl) rfl rfl ?_))
        refine w_ldiv rfl (by decide) ?_
        refine w_las (j := 7 * m.orders + 4) rfl rfl (by (simp only [kb6, kb7, kb8, kb9, kb16, ki0, ki1, ki2, ki3, ki4, ki5, nI_addR, nI_mulR]; try (congr 1; omega))) (by omega) (by decide) ?_
        (repeat (first | refine w_iadd1 rfl ?_ | refine w_isub1 rfl ?_ | refine w_iinc1 rfl rfl ?_ | refine w_s rfl rfl ?_ | refine w_get rfl rfl rfl rfl ?_ | refine w_nnl rfl ?_ | refine w_nnlR rfl ?_ | refine w_nul rfl ?_ | refine w_nulR rfl ?_ | refine w_ldc rfl rfl ?_ | refine w_ldc2 rfl rfl ?_ | refine w_put rfl rfl rfl (Nat.le_of_ble_eq_true rfl) (Or.inl rfl) rfl rfl ?_))
        refine w_lrem rfl (by decide) ?_
        refine w_las (j := 7 * m.orders + 5) rfl rfl (by (simp only [kb6, kb7, kb8, kb9, kb16, ki0, ki1, ki2, ki3, ki4, ki5, nI_addR, nI_mulR]; try (congr 1; omega))) (by omega) (by decide) ?_
        (repeat (first | refine w_iadd1 rfl ?_ | refine w_isub1 rfl ?_ | refine w_iinc1 rfl rfl ?_ | refine w_s rfl rfl ?_ | refine w_get rfl rfl rfl rfl ?_ | refine w_nnl rfl ?_ | refine w_nnlR rfl ?_ | refine w_nul rfl ?_ | refine w_nulR rfl ?_ | refine w_ldc rfl rfl ?_ | refine w_ldc2 rfl rfl ?_ | refine w_put rfl rfl rfl (Nat.le_of_ble_eq_true rfl) (Or.inl rfl) rfl rfl ?_))
        refine w_if1 rfl (fun h9 => ?_) (fun h9 => ?_)
        · have h10 := c_ge0.mp h9
          rw [if_neg (by omega)]
          (repeat (first | refine w_iadd1 rfl ?_ | refine w_isub1 rfl ?_ | refine w_iinc1 rfl rfl ?_ | refine w_s rfl rfl ?_ | refine w_get rfl rfl rfl rfl ?_ | refine w_nnl rfl ?_ | refine w_nnlR rfl ?_ | refine w_nul rfl ?_ | refine w_nulR rfl ?_ | refine w_ldc rfl rfl ?_ | refine w_ldc2 rfl rfl ?_ | refine w_put rfl rfl rfl (Nat.le_of_ble_eq_true rfl) (Or.inl rfl) rfl rfl ?_))
          refine w_las (j := 7 * m.orders + 6) rfl rfl (by (simp only [kb6, kb7, kb8, kb9, kb16, ki0, ki1, ki2, ki3, ki4, ki5, nI_addR, nI_mulR]; try (congr 1; omega))) (by omega) (by decide) ?_
          (repeat (first | refine w_iadd1 rfl ?_ | refine w_isub1 rfl ?_ | refine w_iinc1 rfl rfl ?_ | refine w_s rfl rfl ?_ | refine w_get rfl rfl rfl rfl ?_ | refine w_nnl rfl ?_ | refine w_nnlR rfl ?_ | refine w_nul rfl ?_ | refine w_nulR rfl ?_ | refine w_ldc rfl rfl ?_ | refine w_ldc2 rfl rfl ?_ | refine w_put rfl rfl rfl (Nat.le_of_ble_eq_true rfl) (Or.inl rfl) rfl rfl ?_))
          (refine w_iret rfl rfl rfl ?_)
          rfl
        · have h10 : ¬ 0 ≤ l.toInt := fun z => h9 (c_ge0.mpr z)
          rw [if_pos (by omega)]
          (repeat (first | refine w_iadd1 rfl ?_ | refine w_isub1 rfl ?_ | refine w_iinc1 rfl rfl ?_ | refine w_s rfl rfl ?_ | refine w_get rfl rfl rfl rfl ?_ | refine w_nnl rfl ?_ | refine w_nnlR rfl ?_ | refine w_nul rfl ?_ | refine w_nulR rfl ?_ | refine w_ldc rfl rfl ?_ | refine w_ldc2 rfl rfl ?_ | refine w_put rfl rfl rfl (Nat.le_of_ble_eq_true rfl) (Or.inl rfl) rfl rfl ?_))
          refine w_las (j := 7 * m.orders + 6) rfl rfl (by (simp only [kb6, kb7, kb8, kb9, kb16, ki0, ki1, ki2, ki3, ki4, ki5, nI_addR, nI_mulR]; try (congr 1; omega))) (by omega) (by decide) ?_
          (repeat (first | refine w_iadd1 rfl ?_ | refine w_isub1 rfl ?_ | refine w_iinc1 rfl rfl ?_ | refine w_s rfl rfl ?_ | refine w_get rfl rfl rfl rfl ?_ | refine w_nnl rfl ?_ | refine w_nnlR rfl ?_ | refine w_nul rfl ?_ | refine w_nulR rfl ?_ | refine w_ldc rfl rfl ?_ | refine w_ldc2 rfl rfl ?_ | refine w_put rfl rfl rfl (Nat.le_of_ble_eq_true rfl) (Or.inl rfl) rfl rfl ?_))
          (refine w_iret rfl rfl rfl ?_)
          rfl
    · have h8 : ax_least c F = -1 := Decidable.not_not.mp h7
      rw [if_pos (Or.inr h8)]
      (repeat (first | refine w_iadd1 rfl ?_ | refine w_isub1 rfl ?_ | refine w_iinc1 rfl rfl ?_ | refine w_s rfl rfl ?_ | refine w_get rfl rfl rfl rfl ?_ | refine w_nnl rfl ?_ | refine w_nnlR rfl ?_ | refine w_nul rfl ?_ | refine w_nulR rfl ?_ | refine w_ldc rfl rfl ?_ | refine w_ldc2 rfl rfl ?_ | refine w_put rfl rfl rfl (Nat.le_of_ble_eq_true rfl) (Or.inl rfl) rfl rfl ?_))
      (refine w_iret rfl rfl rfl ?_)
      rfl
theorem n_order {Fs Qs : Nat → ax_Of} (hM : MkRel m Fs) (hQ : MqRel c m Qs) (hR : BRel c m) (hb : BoardOk c) (ho : m.orders ≤ 20) (k : Int32) (q d : Int64) : ax_run m_Mo_order [.ref 23, .int k, .long q, .long d] (ax_hp L xs c m o pool, u) (ax_mout L xs c o pool u (mp_order c m Fs Qs k q d)) := by
  have hn := hM.n
  have hqn := hQ.n
  have hq10 := hQ.n10
  unfold mp_order
  split
  · rename_i h0
    (refine ax_run_T (ax_T_of M_Mo_order rfl (Nat.le_of_ble_eq_true rfl) ?_))
    (repeat (first | refine w_iadd1 rfl ?_ | refine w_isub1 rfl ?_ | refine w_iinc1 rfl rfl ?_ | refine w_s rfl rfl ?_ | refine w_get rfl rfl rfl rfl ?_ | refine w_nnl rfl ?_ | refine w_nnlR rfl ?_ | refine w_nul rfl ?_ | refine w_nulR rfl ?_ | refine w_ldc rfl rfl ?_ | refine w_ldc2 rfl rfl ?_ | refine w_put rfl rfl rfl (Nat.le_of_ble_eq_true rfl) (Or.inl rfl) rfl rfl ?_))
    (refine w_cv rfl rfl rfl rfl (by exact Nat.le_of_ble_eq_true rfl) (by exact Nat.le_of_ble_eq_true rfl) (n_isMaker k hn) ?_; dsimp only [Option.toList, List.drop, List.cons_append, List.nil_append])
    refine w_if1 rfl (fun h5 => absurd (c_ne0.mp h5) h0) (fun _ => ?_)
    (repeat (first | refine w_iadd1 rfl ?_ | refine w_isub1 rfl ?_ | refine w_iinc1 rfl rfl ?_ | refine w_s rfl rfl ?_ | refine w_get rfl rfl rfl rfl ?_ | refine w_nnl rfl ?_ | refine w_nnlR rfl ?_ | refine w_nul rfl ?_ | refine w_nulR rfl ?_ | refine w_ldc rfl rfl ?_ | refine w_ldc2 rfl rfl ?_ | refine w_put rfl rfl rfl (Nat.le_of_ble_eq_true rfl) (Or.inl rfl) rfl rfl ?_))
    refine w_if1 rfl (fun h5 => absurd h5 k_eq1) (fun _ => ?_)
    (repeat (first | refine w_iadd1 rfl ?_ | refine w_isub1 rfl ?_ | refine w_iinc1 rfl rfl ?_ | refine w_s rfl rfl ?_ | refine w_get rfl rfl rfl rfl ?_ | refine w_nnl rfl ?_ | refine w_nnlR rfl ?_ | refine w_nul rfl ?_ | refine w_nulR rfl ?_ | refine w_ldc rfl rfl ?_ | refine w_ldc2 rfl rfl ?_ | refine w_put rfl rfl rfl (Nat.le_of_ble_eq_true rfl) (Or.inl rfl) rfl rfl ?_))
    (refine w_iret rfl rfl rfl ?_)
    rfl
  · rename_i h0
    have h1 := Decidable.not_not.mp h0
    obtain ⟨n, rfl, hn1, hn2⟩ := q_nat (x := k) (by omega)
    have hnn : (nI n).toInt.toNat = n := by rw [← hn1]; rfl
    rw [hnn]
    have hnm : n < m.makers := by omega
    clear hnn hn1
    split
    · rename_i h2
      (refine ax_run_T (ax_T_of M_Mo_order rfl (Nat.le_of_ble_eq_true rfl) ?_))
      (repeat (first | refine w_iadd1 rfl ?_ | refine w_isub1 rfl ?_ | refine w_iinc1 rfl rfl ?_ | refine w_s rfl rfl ?_ | refine w_get rfl rfl rfl rfl ?_ | refine w_nnl rfl ?_ | refine w_nnlR rfl ?_ | refine w_nul rfl ?_ | refine w_nulR rfl ?_ | refine w_ldc rfl rfl ?_ | refine w_ldc2 rfl rfl ?_ | refine w_put rfl rfl rfl (Nat.le_of_ble_eq_true rfl) (Or.inl rfl) rfl rfl ?_))
      (refine w_cv rfl rfl rfl rfl (by exact Nat.le_of_ble_eq_true rfl) (by exact Nat.le_of_ble_eq_true rfl) (n_isMaker (nI n) hn) ?_; dsimp only [Option.toList, List.drop, List.cons_append, List.nil_append])
      refine w_if1 rfl (fun _ => ?_) (fun h5 => absurd (c_ne0.mpr h1) h5)
      (repeat (first | refine w_iadd1 rfl ?_ | refine w_isub1 rfl ?_ | refine w_iinc1 rfl rfl ?_ | refine w_s rfl rfl ?_ | refine w_get rfl rfl rfl rfl ?_ | refine w_nnl rfl ?_ | refine w_nnlR rfl ?_ | refine w_nul rfl ?_ | refine w_nulR rfl ?_ | refine w_ldc rfl rfl ?_ | refine w_ldc2 rfl rfl ?_ | refine w_put rfl rfl rfl (Nat.le_of_ble_eq_true rfl) (Or.inl rfl) rfl rfl ?_))
      (refine w_cs rfl rfl (by first | decide | exact Nat.le_of_ble_eq_true rfl) (by exact Nat.le_of_ble_eq_true rfl) (n_isQuantity q) ?_; dsimp only [Option.toList, List.drop, List.cons_append, List.nil_append])
      refine w_if1 rfl (fun _ => ?_) (fun h5 => absurd (c_eq0.mpr h2) h5)
      (repeat (first | refine w_iadd1 rfl ?_ | refine w_isub1 rfl ?_ | refine w_iinc1 rfl rfl ?_ | refine w_s rfl rfl ?_ | refine w_get rfl rfl rfl rfl ?_ | refine w_nnl rfl ?_ | refine w_nnlR rfl ?_ | refine w_nul rfl ?_ | refine w_nulR rfl ?_ | refine w_ldc rfl rfl ?_ | refine w_ldc2 rfl rfl ?_ | refine w_put rfl rfl rfl (Nat.le_of_ble_eq_true rfl) (Or.inl rfl) rfl rfl ?_))
      refine w_if1 rfl (fun h5 => absurd h5 k_eq2) (fun _ => ?_)
      (repeat (first | refine w_iadd1 rfl ?_ | refine w_isub1 rfl ?_ | refine w_iinc1 rfl rfl ?_ | refine w_s rfl rfl ?_ | refine w_get rfl rfl rfl rfl ?_ | refine w_nnl rfl ?_ | refine w_nnlR rfl ?_ | refine w_nul rfl ?_ | refine w_nulR rfl ?_ | refine w_ldc rfl rfl ?_ | refine w_ldc2 rfl rfl ?_ | refine w_put rfl rfl rfl (Nat.le_of_ble_eq_true rfl) (Or.inl rfl) rfl rfl ?_))
      (refine w_iret rfl rfl rfl ?_)
      rfl
    · rename_i h2
      have h3 := Decidable.not_not.mp h2
      have lp : ∀ (s : Nat) (x : Int32), s ≤ c.qn → x.toInt = (s : Int) - 1 → (ax_latest c (nI n) d = ax_lat (fun q => decide (c.qm q = nI n ∧ d.toInt ≤ (c.qu q).toInt)) s) → ax_wp ax_run M_Mo_order (fun r' => r' = ax_mout L xs c o pool u (mp_order2 c m (nI n) q (ax_latest c (nI n) d) (ax_ofr c Fs Qs n (ax_latest c (nI n) d)) (ax_prow n (ax_latest c (nI n) d)))) 45 [(0, .ref 23), (1, .int (nI n)), (2, .long q), (4, .long d), (6, .int x)] [] (ax_hp L xs c (ax_Mo.u_thrown m 0) o pool, u) := by
        intro s
        induction s with
        | zero =>
          intro x hs hx hlat
          have hx1 : x = -1 := by
            rw [q_eq, hx]
            decide
          subst hx1
          have hl' : ax_latest c (nI n) d = -1 := hlat
          rw [hl']
          (repeat (first | refine w_iadd1 rfl ?_ | refine w_isub1 rfl ?_ | refine w_iinc1 rfl rfl ?_ | refine w_s rfl rfl ?_ | refine w_get rfl rfl rfl rfl ?_ | refine w_nnl rfl ?_ | refine w_nnlR rfl ?_ | refine w_nul rfl ?_ | refine w_nulR rfl ?_ | refine w_ldc rfl rfl ?_ | refine w_ldc2 rfl rfl ?_ | refine w_put rfl rfl rfl (Nat.le_of_ble_eq_true rfl) (Or.inl rfl) rfl rfl ?_))
          refine w_if1 rfl (fun _ => ?_) (fun h5 => absurd (c_lt0.mpr (by decide)) h5)
          (repeat (first | refine w_iadd1 rfl ?_ | refine w_isub1 rfl ?_ | refine w_iinc1 rfl rfl ?_ | refine w_s rfl rfl ?_ | refine w_get rfl rfl rfl rfl ?_ | refine w_nnl rfl ?_ | refine w_nnlR rfl ?_ | refine w_nul rfl ?_ | refine w_nulR rfl ?_ | refine w_ldc rfl rfl ?_ | refine w_ldc2 rfl rfl ?_ | refine w_put rfl rfl rfl (Nat.le_of_ble_eq_true rfl) (Or.inl rfl) rfl rfl ?_))
          refine w_if1 rfl (fun h5 => absurd (c_ge0.mp h5) (by decide)) (fun _ => ?_)
          (repeat ((fail_if_success (show ax_wp _ _ _ 95 _ _ _)); (first | refine w_iadd1 rfl ?_ | refine w_isub1 rfl ?_ | refine w_iinc1 rfl rfl ?_ | refine w_s rfl rfl ?_ | refine w_get rfl rfl rfl rfl ?_ | refine w_nnl rfl ?_ | refine w_nnlR rfl ?_ | refine w_nul rfl ?_ | refine w_nulR rfl ?_ | refine w_ldc rfl rfl ?_ | refine w_ldc2 rfl rfl ?_ | refine w_put rfl rfl rfl (Nat.le_of_ble_eq_true rfl) (Or.inl rfl) rfl rfl ?_)))
          have hN := hM.at_ n hnm
          exact w_lv (n_order2 (F := Fs n) (p := n) hN.1 hN.2 hR hb ho (by omega) n q h3 (-1)) rfl ⟨rfl, rfl, rfl, rfl, rfl, trivial⟩
        | succ s ih =>
          intro x hs hx hlat
          have hx' : x = nI s := q_nIof (by omega) (by omega)
          subst hx'
          (repeat ((fail_if_success (show ax_wp _ _ _ 47 _ _ _)); (first | refine w_iadd1 rfl ?_ | refine w_isub1 rfl ?_ | refine w_iinc1 rfl rfl ?_ | refine w_s rfl rfl ?_ | refine w_get rfl rfl rfl rfl ?_ | refine w_nnl rfl ?_ | refine w_nnlR rfl ?_ | refine w_nul rfl ?_ | refine w_nulR rfl ?_ | refine w_ldc rfl rfl ?_ | refine w_ldc2 rfl rfl ?_ | refine w_put rfl rfl rfl (Nat.le_of_ble_eq_true rfl) (Or.inl rfl) rfl rfl ?_)))
          refine w_if1 rfl (fun h5 => absurd (c_lt0.mp h5) (by omega)) (fun _ => ?_)
          (repeat (first | refine w_iadd1 rfl ?_ | refine w_isub1 rfl ?_ | refine w_iinc1 rfl rfl ?_ | refine w_s rfl rfl ?_ | refine w_get rfl rfl rfl rfl ?_ | refine w_nnl rfl ?_ | refine w_nnlR rfl ?_ | refine w_nul rfl ?_ | refine w_nulR rfl ?_ | refine w_ldc rfl rfl ?_ | refine w_ldc2 rfl rfl ?_ | refine w_put rfl rfl rfl (Nat.le_of_ble_eq_true rfl) (Or.inl rfl) rfl rfl ?_))
          refine w_ia rfl rfl rfl (by omega) (by decide) ?_
          rw [hQ.mkr s hs]
          (repeat (first | refine w_iadd1 rfl ?_ | refine w_isub1 rfl ?_ | refine w_iinc1 rfl rfl ?_ | refine w_s rfl rfl ?_ | refine w_get rfl rfl rfl rfl ?_ | refine w_nnl rfl ?_ | refine w_nnlR rfl ?_ | refine w_nul rfl ?_ | refine w_nulR rfl ?_ | refine w_ldc rfl rfl ?_ | refine w_ldc2 rfl rfl ?_ | refine w_put rfl rfl rfl (Nat.le_of_ble_eq_true rfl) (Or.inl rfl) rfl rfl ?_))
          refine w_if2 rfl (fun h5 => ?_) (fun h5 => ?_)
          · have h6 : ¬ c.qm s = nI n := h5
            (repeat ((fail_if_success (show ax_wp _ _ _ 45 _ _ _)); (first | refine w_iadd1 rfl ?_ | refine w_isub1 rfl ?_ | refine w_iinc1 rfl rfl ?_ | refine w_s rfl rfl ?_ | refine w_get rfl rfl rfl rfl ?_ | refine w_nnl rfl ?_ | refine w_nnlR rfl ?_ | refine w_nul rfl ?_ | refine w_nulR rfl ?_ | refine w_ldc rfl rfl ?_ | refine w_ldc2 rfl rfl ?_ | refine w_put rfl rfl rfl (Nat.le_of_ble_eq_true rfl) (Or.inl rfl) rfl rfl ?_)))
            refine w_lv (ih (nI s + Int32.ofInt (-1)) (q_le1 hs) (q_dec s (by omega)) ?_) rfl ⟨rfl, rfl, rfl, rfl, rfl, trivial⟩
            rw [hlat]
            exact if_neg (by rw [decide_eq_true_eq]; exact fun z => h6 z.1)
          · have h6 : c.qm s = nI n := Decidable.not_not.mp h5
            (repeat (first | refine w_iadd1 rfl ?_ | refine w_isub1 rfl ?_ | refine w_iinc1 rfl rfl ?_ | refine w_s rfl rfl ?_ | refine w_get rfl rfl rfl rfl ?_ | refine w_nnl rfl ?_ | refine w_nnlR rfl ?_ | refine w_nul rfl ?_ | refine w_nulR rfl ?_ | refine w_ldc rfl rfl ?_ | refine w_ldc2 rfl rfl ?_ | refine w_put rfl rfl rfl (Nat.le_of_ble_eq_true rfl) (Or.inl rfl) rfl rfl ?_))
            refine w_la rfl rfl rfl (by omega) (by decide) ?_
            rw [hQ.un s hs]
            (repeat (first | refine w_iadd1 rfl ?_ | refine w_isub1 rfl ?_ | refine w_iinc1 rfl rfl ?_ | refine w_s rfl rfl ?_ | refine w_get rfl rfl rfl rfl ?_ | refine w_nnl rfl ?_ | refine w_nnlR rfl ?_ | refine w_nul rfl ?_ | refine w_nulR rfl ?_ | refine w_ldc rfl rfl ?_ | refine w_ldc2 rfl rfl ?_ | refine w_put rfl rfl rfl (Nat.le_of_ble_eq_true rfl) (Or.inl rfl) rfl rfl ?_))
            refine w_if1 rfl (fun h7 => ?_) (fun h7 => ?_)
            · have h8 := c_Lge.mp h7
              have hl' : ax_latest c (nI n) d = nI s := by
                rw [hlat]
                exact if_pos (by rw [decide_eq_true_eq]; exact ⟨h6, h8⟩)
              have hss : (nI s).toInt.toNat = s := by rw [q_nI' (by omega)]; rfl
              have hnl : ¬ (nI s).toInt < 0 := by rw [q_nI' (by omega)]; omega
              rw [hl']
              (repeat (first | refine w_iadd1 rfl ?_ | refine w_isub1 rfl ?_ | refine w_iinc1 rfl rfl ?_ | refine w_s rfl rfl ?_ | refine w_get rfl rfl rfl rfl ?_ | refine w_nnl rfl ?_ | refine w_nnlR rfl ?_ | refine w_nul rfl ?_ | refine w_nulR rfl ?_ | refine w_ldc rfl rfl ?_ | refine w_ldc2 rfl rfl ?_ | refine w_put rfl rfl rfl (Nat.le_of_ble_eq_true rfl) (Or.inl rfl) rfl rfl ?_))
              refine w_if1 rfl (fun _ => ?_) (fun h9 => absurd (c_ge0.mpr (Int.not_lt.mp hnl)) h9)
              have hN := hQ.at_ s hs
              have e1 : ax_ofr c Fs Qs n (nI s) = Qs s := by
                unfold ax_ofr
                rw [if_neg hnl, hss]
              have e2 : ax_prow n (nI s) = 4 + s := by
                unfold ax_prow
                rw [if_neg hnl, hss]
              rw [e1, e2]
              (repeat ((fail_if_success (show ax_wp _ _ _ 93 _ _ _)); (first | refine w_iadd1 rfl ?_ | refine w_isub1 rfl ?_ | refine w_iinc1 rfl rfl ?_ | refine w_s rfl rfl ?_ | refine w_get rfl rfl rfl rfl ?_ | refine w_nnl rfl ?_ | refine w_nnlR rfl ?_ | refine w_nul rfl ?_ | refine w_nulR rfl ?_ | refine w_ldc rfl rfl ?_ | refine w_ldc2 rfl rfl ?_ | refine w_put rfl rfl rfl (Nat.le_of_ble_eq_true rfl) (Or.inl rfl) rfl rfl ?_)))
              refine w_eqI (y := nI (4 + s)) (by (simp only [kb6, kb7, kb8, kb9, kb16, ki0, ki1, ki2, ki3, ki4, ki5, nI_addR, nI_mulR]; try (congr 1; omega))) ?_
              (repeat ((fail_if_success (show ax_wp _ _ _ 95 _ _ _)); (first | refine w_iadd1 rfl ?_ | refine w_isub1 rfl ?_ | refine w_iinc1 rfl rfl ?_ | refine w_s rfl rfl ?_ | refine w_get rfl rfl rfl rfl ?_ | refine w_nnl rfl ?_ | refine w_nnlR rfl ?_ | refine w_nul rfl ?_ | refine w_nulR rfl ?_ | refine w_ldc rfl rfl ?_ | refine w_ldc2 rfl rfl ?_ | refine w_put rfl rfl rfl (Nat.le_of_ble_eq_true rfl) (Or.inl rfl) rfl rfl ?_)))
              exact w_lv (n_order2 (F := Qs s) (p := 4 + s) hN.1 hN.2 hR hb ho (by omega) n q h3 (nI s)) rfl ⟨rfl, rfl, rfl, rfl, rfl, trivial⟩
            · have h8 : ¬ d.toInt ≤ (c.qu s).toInt := fun z => h7 (c_Lge.mpr z)
              (repeat ((fail_if_success (show ax_wp _ _ _ 45 _ _ _)); (first | refine w_iadd1 rfl ?_ | refine w_isub1 rfl ?_ | refine w_iinc1 rfl rfl ?_ | refine w_s rfl rfl ?_ | refine w_get rfl rfl rfl rfl ?_ | refine w_nnl rfl ?_ | refine w_nnlR rfl ?_ | refine w_nul rfl ?_ | refine w_nulR rfl ?_ | refine w_ldc rfl rfl ?_ | refine w_ldc2 rfl rfl ?_ | refine w_put rfl rfl rfl (Nat.le_of_ble_eq_true rfl) (Or.inl rfl) rfl rfl ?_)))
              refine w_lv (ih (nI s + Int32.ofInt (-1)) (q_le1 hs) (q_dec s (by omega)) ?_) rfl ⟨rfl, rfl, rfl, rfl, rfl, trivial⟩
              rw [hlat]
              exact if_neg (by rw [decide_eq_true_eq]; exact fun z => h8 z.2)
      (refine ax_run_T (ax_T_of M_Mo_order rfl (Nat.le_of_ble_eq_true rfl) ?_))
      (repeat (first | refine w_iadd1 rfl ?_ | refine w_isub1 rfl ?_ | refine w_iinc1 rfl rfl ?_ | refine w_s rfl rfl ?_ | refine w_get rfl rfl rfl rfl ?_ | refine w_nnl rfl ?_ | refine w_nnlR rfl ?_ | refine w_nul rfl ?_ | refine w_nulR rfl ?_ | refine w_ldc rfl rfl ?_ | refine w_ldc2 rfl rfl ?_ | refine w_put rfl rfl rfl (Nat.le_of_ble_eq_true rfl) (Or.inl rfl) rfl rfl ?_))
      (refine w_cv rfl rfl rfl rfl (by exact Nat.le_of_ble_eq_true rfl) (by exact Nat.le_of_ble_eq_true rfl) (n_isMaker (nI n) hn) ?_; dsimp only [Option.toList, List.drop, List.cons_append, List.nil_append])
      refine w_if1 rfl (fun _ => ?_) (fun h5 => absurd (c_ne0.mpr h1) h5)
      (repeat (first | refine w_iadd1 rfl ?_ | refine w_isub1 rfl ?_ | refine w_iinc1 rfl rfl ?_ | refine w_s rfl rfl ?_ | refine w_get rfl rfl rfl rfl ?_ | refine w_nnl rfl ?_ | refine w_nnlR rfl ?_ | refine w_nul rfl ?_ | refine w_nulR rfl ?_ | refine w_ldc rfl rfl ?_ | refine w_ldc2 rfl rfl ?_ | refine w_put rfl rfl rfl (Nat.le_of_ble_eq_true rfl) (Or.inl rfl) rfl rfl ?_))
      (refine w_cs rfl rfl (by first | decide | exact Nat.le_of_ble_eq_true rfl) (by exact Nat.le_of_ble_eq_true rfl) (n_isQuantity q) ?_; dsimp only [Option.toList, List.drop, List.cons_append, List.nil_append])
      refine w_if1 rfl (fun h5 => absurd h3 (c_eq0.mp h5)) (fun _ => ?_)
      (repeat (first | refine w_iadd1 rfl ?_ | refine w_isub1 rfl ?_ | refine w_iinc1 rfl rfl ?_ | refine w_s rfl rfl ?_ | refine w_get rfl rfl rfl rfl ?_ | refine w_nnl rfl ?_ | refine w_nnlR rfl ?_ | refine w_nul rfl ?_ | refine w_nulR rfl ?_ | refine w_ldc rfl rfl ?_ | refine w_ldc2 rfl rfl ?_ | refine w_put rfl rfl rfl (Nat.le_of_ble_eq_true rfl) (Or.inl rfl) rfl rfl ?_))
      refine w_if1 rfl (fun _ => ?_) (fun h5 => absurd rfl h5)
      (repeat ((fail_if_success (show ax_wp _ _ _ 45 _ _ _)); (first | refine w_iadd1 rfl ?_ | refine w_isub1 rfl ?_ | refine w_iinc1 rfl rfl ?_ | refine w_s rfl rfl ?_ | refine w_get rfl rfl rfl rfl ?_ | refine w_nnl rfl ?_ | refine w_nnlR rfl ?_ | refine w_nul rfl ?_ | refine w_nulR rfl ?_ | refine w_ldc rfl rfl ?_ | refine w_ldc2 rfl rfl ?_ | refine w_put rfl rfl rfl (Nat.le_of_ble_eq_true rfl) (Or.inl rfl) rfl rfl ?_)))
      refine w_lv (lp c.qn (nI m.quotes - Int32.ofInt 1) (Nat.le_refl _) ?_ rfl) rfl ⟨rfl, rfl, rfl, rfl, rfl, trivial⟩
      rw [hqn]
      exact q_pred _ hq10
end MI
end
section
/-! the balance, class -/
theorem q_bLx (a b : Nat) (ha : a ≤ 10) (hb1 : 1 ≤ b) (hb : b ≤ 10) : a * (2520 / b) ≤ 25200 := by
  have : 2520 / b ≤ 2520 := Nat.div_le_self _ _
  exact Nat.le_trans (Nat.mul_le_mul ha this) (by decide)
/-- the copper of a cell, in 2520ths -/
def ax_un (f g : Nat → Int32) (i : Nat) : Nat := (f i).toInt.toNat * (2520 / (g i).toInt.toNat)
def ax_sm (f g : Nat → Int32) (i : Nat) : Nat → Nat
  | 0 => 0
  | n + 1 => ax_sm f g i n + ax_un f g (i + n)
abbrev CellOk (c : ax_St) : Prop := (∀ i, i < 128 → 0 ≤ (c.ab i).toInt ∧ (c.ab i).toInt ≤ 10) ∧ (∀ i, i < 128 → 1 ≤ (c.be i).toInt ∧ (c.be i).toInt ≤ 10)
theorem CellOk.a {c : ax_St} (h_ : CellOk c) : ∀ i, i < 128 → 0 ≤ (c.ab i).toInt ∧ (c.ab i).toInt ≤ 10 := h_.1
theorem CellOk.b {c : ax_St} (h_ : CellOk c) : ∀ i, i < 128 → 1 ≤ (c.be i).toInt ∧ (c.be i).toInt ≤ 10 := h_.2
theorem ax_un_b {c : ax_St} (h : CellOk c) {i : Nat} (hi : i < 128) : ax_un c.ab c.be i ≤ 25200 := by
  have h1 := h.a i hi
  have h2 := h.b i hi
  exact q_bLx _ _ (by omega) (by omega) (by omega)
theorem ax_sm_b {c : ax_St} (h : CellOk c) {i : Nat} : ∀ n, i + n ≤ 128 → ax_sm c.ab c.be i n ≤ 25200 * n := by
  intro n
  induction n with
  | zero => exact fun _ => Nat.zero_le _
  | succ n ih =>
    intro hn
    have h1 := ih (by omega)
    have h2 := ax_un_b h (i := i + n) (by omega)
    show ax_sm c.ab c.be i n + ax_un c.ab c.be (i + n) ≤ _
    omega
theorem q_nL {x : Int64} {n : Nat} (h : x.toInt = n) : x = Int64.ofInt n := q_toL h
theorem q_divI {a b : Int32} {m n : Nat} (ha : a.toInt = m) (hb : b.toInt = n) (hn : 0 < n) (hm : m < 2147483648) : (a / b).toInt = ((m / n : Nat) : Int) := by
  rw [Int32.toInt_div, ha, hb]
  have h1 : (m : Int).tdiv (n : Int) = ((m / n : Nat) : Int) := rfl
  rw [h1, q_bm32]
  have h2 : m / n ≤ m := Nat.div_le_self _ _
  generalize m / n = z at *
  omega
theorem q_divL {a b : Int64} {m n : Nat} (ha : a.toInt = m) (hb : b.toInt = n) (hm : m < 9223372036854775808) : (a / b).toInt = ((m / n : Nat) : Int) := by
  rw [Int64.toInt_div, ha, hb]
  have h1 : (m : Int).tdiv (n : Int) = ((m / n : Nat) : Int) := rfl
  rw [h1, q_bm64]
  have h2 : m / n ≤ m := Nat.div_le_self _ _
  generalize m / n = z at *
  omega
theorem q_modL {a b : Int64} {m n : Nat} (ha : a.toInt = m) (hb : b.toInt = n) (hm : m < 9223372036854775808) : (a - a / b * b).toInt = ((m % n : Nat) : Int) := by
  rw [q_subL, q_mulL, q_divL ha hb hm, ha, hb]
  have h1 : m / n * n ≤ m := Nat.div_mul_le_self _ _
  have h2 : m % n + n * (m / n) = m := Nat.mod_add_div m n
  have h3 : ((m / n : Nat) : Int) * (n : Int) = ((m / n * n : Nat) : Int) := (Int.natCast_mul _ _).symm
  rw [h3]
  rw [Nat.mul_comm] at h2
  generalize m / n * n = z at *
  omega
theorem q_mulN {a b : Int64} {m n : Nat} (ha : a.toInt = m) (hb : b.toInt = n) (h : m * n < 9223372036854775808) : (a * b).toInt = ((m * n : Nat) : Int) := by
  rw [q_mulL, ha, hb]
  have h3 : (m : Int) * (n : Int) = ((m * n : Nat) : Int) := (Int.natCast_mul _ _).symm
  rw [h3]
  omega
theorem q_addN {a b : Int64} {m n : Nat} (ha : a.toInt = m) (hb : b.toInt = n) (h : m + n < 9223372036854775808) : (a + b).toInt = ((m + n : Nat) : Int) := by
  rw [q_addL, ha, hb]
  omega
section CJ
variable {L : Nat} {xs : Nat → Int32} {c : ax_St} {m : ax_Mo} {o : Nat → Int64} {pool : List (Option ax_C)} {u : Nat} {h : ax_H}
theorem r_units (hc : CellOk c) (l k : Nat) (hl : l < 8) (hk : k < 16) : ax_run m_Ce_units [.ref 20, .int (nI l), .int (nI k)] (ax_hp L xs c m o pool, u) (.inl (some (.long (Int64.ofInt (ax_un c.ab c.be (16 * l + k) : Nat)))), (ax_hp L xs c m o pool, u)) := by
  have hA := hc.a (16 * l + k) (by omega)
  have hB := hc.b (16 * l + k) (by omega)
  (refine ax_run_T (ax_T_of M_Ce_units rfl (Nat.le_of_ble_eq_true rfl) ?_))
  (repeat (first | refine w_iadd1 rfl ?_ | refine w_isub1 rfl ?_ | refine w_iinc1 rfl rfl ?_ | refine w_s rfl rfl ?_ | refine w_get rfl rfl rfl rfl ?_ | refine w_nnl rfl ?_ | refine w_nnlR rfl ?_ | refine w_nul rfl ?_ | refine w_nulR rfl ?_ | refine w_ldc rfl rfl ?_ | refine w_ldc2 rfl rfl ?_ | refine w_put rfl rfl rfl (Nat.le_of_ble_eq_true rfl) (Or.inl rfl) rfl rfl ?_))
  (refine w_cs rfl rfl (by first | decide | exact Nat.le_of_ble_eq_true rfl) (by exact Nat.le_of_ble_eq_true rfl) (r_noLayer (nI l)) ?_; dsimp only [Option.toList, List.drop, List.cons_append, List.nil_append])
  refine w_if1 rfl (fun h5 => absurd (c_ne0.mp h5) (fun z => z ⟨by rw [q_nI' (by omega)]; omega, by rw [q_nI' (by omega)]; omega⟩)) (fun _ => ?_)
  (repeat (first | refine w_iadd1 rfl ?_ | refine w_isub1 rfl ?_ | refine w_iinc1 rfl rfl ?_ | refine w_s rfl rfl ?_ | refine w_get rfl rfl rfl rfl ?_ | refine w_nnl rfl ?_ | refine w_nnlR rfl ?_ | refine w_nul rfl ?_ | refine w_nulR rfl ?_ | refine w_ldc rfl rfl ?_ | refine w_ldc2 rfl rfl ?_ | refine w_put rfl rfl rfl (Nat.le_of_ble_eq_true rfl) (Or.inl rfl) rfl rfl ?_))
  (refine w_cs rfl rfl (by first | decide | exact Nat.le_of_ble_eq_true rfl) (by exact Nat.le_of_ble_eq_true rfl) (r_noCell (nI k)) ?_; dsimp only [Option.toList, List.drop, List.cons_append, List.nil_append])
  refine w_if1 rfl (fun _ => ?_) (fun h5 => absurd (c_eq0.mpr (fun z => z ⟨by rw [q_nI' (by omega)]; omega, by rw [q_nI' (by omega)]; omega⟩)) h5)
  (repeat ((fail_if_success (show ax_wp _ _ _ 22 _ _ _)); (first | refine w_iadd1 rfl ?_ | refine w_isub1 rfl ?_ | refine w_iinc1 rfl rfl ?_ | refine w_s rfl rfl ?_ | refine w_get rfl rfl rfl rfl ?_ | refine w_nnl rfl ?_ | refine w_nnlR rfl ?_ | refine w_nul rfl ?_ | refine w_nulR rfl ?_ | refine w_ldc rfl rfl ?_ | refine w_ldc2 rfl rfl ?_ | refine w_put rfl rfl rfl (Nat.le_of_ble_eq_true rfl) (Or.inl rfl) rfl rfl ?_)))
  refine w_eqI (y := nI (16 * l + k)) (by (simp only [kb6, kb7, kb8, kb9, kb16, ki0, ki1, ki2, ki3, ki4, ki5, nI_addR, nI_mulR]; try (congr 1; omega))) ?_
  (repeat (first | refine w_iadd1 rfl ?_ | refine w_isub1 rfl ?_ | refine w_iinc1 rfl rfl ?_ | refine w_s rfl rfl ?_ | refine w_get rfl rfl rfl rfl ?_ | refine w_nnl rfl ?_ | refine w_nnlR rfl ?_ | refine w_nul rfl ?_ | refine w_nulR rfl ?_ | refine w_ldc rfl rfl ?_ | refine w_ldc2 rfl rfl ?_ | refine w_put rfl rfl rfl (Nat.le_of_ble_eq_true rfl) (Or.inl rfl) rfl rfl ?_))
  refine w_ia rfl rfl rfl (by omega) (by decide) ?_
  (repeat (first | refine w_iadd1 rfl ?_ | refine w_isub1 rfl ?_ | refine w_iinc1 rfl rfl ?_ | refine w_s rfl rfl ?_ | refine w_get rfl rfl rfl rfl ?_ | refine w_nnl rfl ?_ | refine w_nnlR rfl ?_ | refine w_nul rfl ?_ | refine w_nulR rfl ?_ | refine w_ldc rfl rfl ?_ | refine w_ldc2 rfl rfl ?_ | refine w_put rfl rfl rfl (Nat.le_of_ble_eq_true rfl) (Or.inl rfl) rfl rfl ?_))
  refine w_if2 rfl (fun _ => ?_) (fun h5 => absurd (Int32.le_iff_toInt_le.mpr (by rw [q_ofI]; omega)) h5)
  (repeat (first | refine w_iadd1 rfl ?_ | refine w_isub1 rfl ?_ | refine w_iinc1 rfl rfl ?_ | refine w_s rfl rfl ?_ | refine w_get rfl rfl rfl rfl ?_ | refine w_nnl rfl ?_ | refine w_nnlR rfl ?_ | refine w_nul rfl ?_ | refine w_nulR rfl ?_ | refine w_ldc rfl rfl ?_ | refine w_ldc2 rfl rfl ?_ | refine w_put rfl rfl rfl (Nat.le_of_ble_eq_true rfl) (Or.inl rfl) rfl rfl ?_))
  refine w_ia rfl rfl rfl (by omega) (by decide) ?_
  (repeat (first | refine w_iadd1 rfl ?_ | refine w_isub1 rfl ?_ | refine w_iinc1 rfl rfl ?_ | refine w_s rfl rfl ?_ | refine w_get rfl rfl rfl rfl ?_ | refine w_nnl rfl ?_ | refine w_nnlR rfl ?_ | refine w_nul rfl ?_ | refine w_nulR rfl ?_ | refine w_ldc rfl rfl ?_ | refine w_ldc2 rfl rfl ?_ | refine w_put rfl rfl rfl (Nat.le_of_ble_eq_true rfl) (Or.inl rfl) rfl rfl ?_))
  refine w_idiv rfl (fun z => ?_) ?_
  · rw [z] at hB
    exact absurd hB.1 (by decide)
  (repeat (first | refine w_iadd1 rfl ?_ | refine w_isub1 rfl ?_ | refine w_iinc1 rfl rfl ?_ | refine w_s rfl rfl ?_ | refine w_get rfl rfl rfl rfl ?_ | refine w_nnl rfl ?_ | refine w_nnlR rfl ?_ | refine w_nul rfl ?_ | refine w_nulR rfl ?_ | refine w_ldc rfl rfl ?_ | refine w_ldc2 rfl rfl ?_ | refine w_put rfl rfl rfl (Nat.le_of_ble_eq_true rfl) (Or.inl rfl) rfl rfl ?_))
  refine w_lret rfl rfl ?_
  congr 4
  apply q_toL
  have e1 : (c.ab (16 * l + k)).toInt64.toInt = (((c.ab (16 * l + k)).toInt.toNat : Nat) : Int) := by rw [q_i2l]; omega
  have e2 : ((Int16.ofInt 2520).toInt32 / c.be (16 * l + k)).toInt64.toInt = ((2520 / (c.be (16 * l + k)).toInt.toNat : Nat) : Int) := by
    rw [q_i2l]
    exact q_divI (by rw [q_b16]; rfl) (by omega) (by omega) (by decide)
  exact q_mulN e1 e2 (Nat.lt_of_le_of_lt (ax_un_b hc (i := 16 * l + k) (by omega)) (by decide))
/-- what the cell has above the mean -/
def ax_abv (f g : Nat → Int32) (l k : Nat) : Int := 16 * (ax_un f g (16 * l + k) : Int) - (ax_sm f g (16 * l) 16 : Int)
theorem r_aboveMean (hc : CellOk c) (l k : Nat) (hl : l < 8) (hk : k < 16) : ax_run m_Ce_aboveMean [.ref 20, .int (nI l), .int (nI k)] (ax_hp L xs c m o pool, u) (.inl (some (.long (Int64.ofInt (ax_abv c.ab c.be l k)))), (ax_hp L xs c m o pool, u)) := by
  have lp : ∀ (d n : Nat), n + d = 16 → ax_wp ax_run M_Ce_aboveMean (fun r' => r' = (.inl (some (.long (Int64.ofInt (ax_abv c.ab c.be l k)))), (ax_hp L xs c m o pool, u))) 5 [(0, .ref 20), (1, .int (nI l)), (2, .int (nI k)), (3, .long (Int64.ofInt (ax_sm c.ab c.be (16 * l) n : Nat))), (5, .int (nI n))] [] (ax_hp L xs c m o pool, u) := by
    intro d
    induction d with
    | zero =>
      intro n hn
      have : n = 16 := by omega
      subst this
      (repeat (first | refine w_iadd1 rfl ?_ | refine w_isub1 rfl ?_ | refine w_iinc1 rfl rfl ?_ | refine w_s rfl rfl ?_ | refine w_get rfl rfl rfl rfl ?_ | refine w_nnl rfl ?_ | refine w_nnlR rfl ?_ | refine w_nul rfl ?_ | refine w_nulR rfl ?_ | refine w_ldc rfl rfl ?_ | refine w_ldc2 rfl rfl ?_ | refine w_put rfl rfl rfl (Nat.le_of_ble_eq_true rfl) (Or.inl rfl) rfl rfl ?_))
      refine w_if2 rfl (fun _ => ?_) (fun h5 => absurd ((cn_ge (a := 16) (b := 16) (by omega) (by omega)).mpr (by omega)) h5)
      (repeat (first | refine w_iadd1 rfl ?_ | refine w_isub1 rfl ?_ | refine w_iinc1 rfl rfl ?_ | refine w_s rfl rfl ?_ | refine w_get rfl rfl rfl rfl ?_ | refine w_nnl rfl ?_ | refine w_nnlR rfl ?_ | refine w_nul rfl ?_ | refine w_nulR rfl ?_ | refine w_ldc rfl rfl ?_ | refine w_ldc2 rfl rfl ?_ | refine w_put rfl rfl rfl (Nat.le_of_ble_eq_true rfl) (Or.inl rfl) rfl rfl ?_))
      (refine w_cv rfl rfl rfl rfl (by exact Nat.le_of_ble_eq_true rfl) (by exact Nat.le_of_ble_eq_true rfl) (r_units hc l k hl hk) ?_; dsimp only [Option.toList, List.drop, List.cons_append, List.nil_append])
      (repeat (first | refine w_iadd1 rfl ?_ | refine w_isub1 rfl ?_ | refine w_iinc1 rfl rfl ?_ | refine w_s rfl rfl ?_ | refine w_get rfl rfl rfl rfl ?_ | refine w_nnl rfl ?_ | refine w_nnlR rfl ?_ | refine w_nul rfl ?_ | refine w_nulR rfl ?_ | refine w_ldc rfl rfl ?_ | refine w_ldc2 rfl rfl ?_ | refine w_put rfl rfl rfl (Nat.le_of_ble_eq_true rfl) (Or.inl rfl) rfl rfl ?_))
      refine w_lret rfl rfl ?_
      congr 4
      apply q_toL
      have h1 := ax_un_b hc (i := 16 * l + k) (by omega)
      have h2 := ax_sm_b hc (i := 16 * l) 16 (by omega)
      have e1 : ((16 : Int64) * Int64.ofInt ((ax_un c.ab c.be (16 * l + k) : Nat) : Int)).toInt = ((16 * ax_un c.ab c.be (16 * l + k) : Nat) : Int) := q_mulN (m := 16) rfl (q_ofIL (by omega) (by omega)) (by omega)
      rw [q_subL, q_ofIL (by omega) (by omega)]
      show (((16 : Int64) * Int64.ofInt ((ax_un c.ab c.be (16 * l + k) : Nat) : Int)).toInt - _ + _) % _ - _ = _
      rw [e1]
      unfold ax_abv
      omega
    | succ d ih =>
      intro n hn
      have h1 := ax_un_b hc (i := 16 * l + n) (by omega)
      have h2 := ax_sm_b hc (i := 16 * l) n (by omega)
      (repeat (first | refine w_iadd1 rfl ?_ | refine w_isub1 rfl ?_ | refine w_iinc1 rfl rfl ?_ | refine w_s rfl rfl ?_ | refine w_get rfl rfl rfl rfl ?_ | refine w_nnl rfl ?_ | refine w_nnlR rfl ?_ | refine w_nul rfl ?_ | refine w_nulR rfl ?_ | refine w_ldc rfl rfl ?_ | refine w_ldc2 rfl rfl ?_ | refine w_put rfl rfl rfl (Nat.le_of_ble_eq_true rfl) (Or.inl rfl) rfl rfl ?_))
      refine w_if2 rfl (fun h5 => absurd ((cn_ge (a := n) (b := 16) (by omega) (by omega)).mp h5) (by omega)) (fun _ => ?_)
      (repeat (first | refine w_iadd1 rfl ?_ | refine w_isub1 rfl ?_ | refine w_iinc1 rfl rfl ?_ | refine w_s rfl rfl ?_ | refine w_get rfl rfl rfl rfl ?_ | refine w_nnl rfl ?_ | refine w_nnlR rfl ?_ | refine w_nul rfl ?_ | refine w_nulR rfl ?_ | refine w_ldc rfl rfl ?_ | refine w_ldc2 rfl rfl ?_ | refine w_put rfl rfl rfl (Nat.le_of_ble_eq_true rfl) (Or.inl rfl) rfl rfl ?_))
      (refine w_cv rfl rfl rfl rfl (by exact Nat.le_of_ble_eq_true rfl) (by exact Nat.le_of_ble_eq_true rfl) (r_units hc l n hl (by omega)) ?_; dsimp only [Option.toList, List.drop, List.cons_append, List.nil_append])
      (repeat ((fail_if_success (show ax_wp _ _ _ 5 _ _ _)); (first | refine w_iadd1 rfl ?_ | refine w_isub1 rfl ?_ | refine w_iinc1 rfl rfl ?_ | refine w_s rfl rfl ?_ | refine w_get rfl rfl rfl rfl ?_ | refine w_nnl rfl ?_ | refine w_nnlR rfl ?_ | refine w_nul rfl ?_ | refine w_nulR rfl ?_ | refine w_ldc rfl rfl ?_ | refine w_ldc2 rfl rfl ?_ | refine w_put rfl rfl rfl (Nat.le_of_ble_eq_true rfl) (Or.inl rfl) rfl rfl ?_)))
      refine w_lv (ih (n + 1) (by omega)) rfl ⟨rfl, rfl, rfl, ?_, rfl, trivial⟩
      have e1 : Int64.ofInt ((ax_sm c.ab c.be (16 * l) n : Nat) : Int) + Int64.ofInt ((ax_un c.ab c.be (16 * l + n) : Nat) : Int) = Int64.ofInt ((ax_sm c.ab c.be (16 * l) (n + 1) : Nat) : Int) := by
        apply q_toL
        exact q_addN (q_ofIL (by omega) (by omega)) (q_ofIL (by omega) (by omega)) (by omega)
      rw [← e1]
      rfl
  (refine ax_run_T (ax_T_of M_Ce_aboveMean rfl (Nat.le_of_ble_eq_true rfl) ?_))
  (repeat ((fail_if_success (show ax_wp _ _ _ 5 _ _ _)); (first | refine w_iadd1 rfl ?_ | refine w_isub1 rfl ?_ | refine w_iinc1 rfl rfl ?_ | refine w_s rfl rfl ?_ | refine w_get rfl rfl rfl rfl ?_ | refine w_nnl rfl ?_ | refine w_nnlR rfl ?_ | refine w_nul rfl ?_ | refine w_nulR rfl ?_ | refine w_ldc rfl rfl ?_ | refine w_ldc2 rfl rfl ?_ | refine w_put rfl rfl rfl (Nat.le_of_ble_eq_true rfl) (Or.inl rfl) rfl rfl ?_)))
  exact w_lv (lp 16 0 (by omega)) rfl ⟨rfl, rfl, rfl, rfl, rfl, trivial⟩
end CJ
end
section
theorem q_half {R r : Nat} (h1 : 0 < r) (h2 : r < R) : 2 * (R % r) < R := by
  have h3 := Nat.mod_lt R h1
  have h4 := Nat.mod_add_div R r
  have h5 : 1 ≤ R / r := Nat.div_pos (Nat.le_of_lt h2) h1
  have h6 : r * 1 ≤ r * (R / r) := Nat.mul_le_mul (Nat.le_refl _) h5
  omega
theorem q_gcd (G R : Nat) : Nat.gcd R (G % R) = Nat.gcd G R := by
  rw [Nat.gcd_comm G R, Nat.gcd_rec R G, Nat.gcd_comm]
section CK
variable {L : Nat} {xs : Nat → Int32} {c : ax_St} {m : ax_Mo} {o : Nat → Int64} {pool : List (Option ax_C)} {u : Nat} {h : ax_H}
theorem r_gcd (A : Nat) (hA : A < 9223372036854775808) : ax_run m_ML_commonDivisor [.long (Int64.ofInt (A : Int)), .long (Int64.ofInt (40320 : Nat))] h (.inl (some (.long (Int64.ofInt (Nat.gcd A 40320 : Nat)))), h) := by
  have fin : ∀ (G : Nat) (lv : ax_L), 1 ≤ G → G < 9223372036854775808 → G = Nat.gcd A 40320 → ax_wp ax_run M_ML_commonDivisor (fun r' => r' = (.inl (some (.long (Int64.ofInt (Nat.gcd A 40320 : Nat)))), h)) 44 [(4, .long (Int64.ofInt (G : Int)))] [] h := by
    intro G lv h1 h2 h3
    (repeat (first | refine w_iadd1 rfl ?_ | refine w_isub1 rfl ?_ | refine w_iinc1 rfl rfl ?_ | refine w_s rfl rfl ?_ | refine w_get rfl rfl rfl rfl ?_ | refine w_nnl rfl ?_ | refine w_nnlR rfl ?_ | refine w_nul rfl ?_ | refine w_nulR rfl ?_ | refine w_ldc rfl rfl ?_ | refine w_ldc2 rfl rfl ?_ | refine w_put rfl rfl rfl (Nat.le_of_ble_eq_true rfl) (Or.inl rfl) rfl rfl ?_))
    (refine w_cs rfl rfl (by first | decide | exact Nat.le_of_ble_eq_true rfl) (by exact Nat.le_of_ble_eq_true rfl) (r_maxL (Int64.ofInt (G : Int)) (Int64.ofNat 1)) ?_; dsimp only [Option.toList, List.drop, List.cons_append, List.nil_append])
    refine w_lret rfl rfl ?_
    rw [if_neg (by rw [q_ofIL (by omega) (by omega), q_ofNL]; omega), h3]
  have ex : ∀ (G n : Nat), n < 100 → 1 ≤ G → G < 9223372036854775808 → G = Nat.gcd A 40320 → ax_wp ax_run M_ML_commonDivisor (fun r' => r' = (.inl (some (.long (Int64.ofInt (Nat.gcd A 40320 : Nat)))), h)) 9 [(4, .long (Int64.ofInt (G : Int))), (6, .long (Int64.ofInt (0 : Nat))), (8, .int (nI n))] [] h := by
    intro G n hn h1 h2 h3
    (repeat (first | refine w_iadd1 rfl ?_ | refine w_isub1 rfl ?_ | refine w_iinc1 rfl rfl ?_ | refine w_s rfl rfl ?_ | refine w_get rfl rfl rfl rfl ?_ | refine w_nnl rfl ?_ | refine w_nnlR rfl ?_ | refine w_nul rfl ?_ | refine w_nulR rfl ?_ | refine w_ldc rfl rfl ?_ | refine w_ldc2 rfl rfl ?_ | refine w_put rfl rfl rfl (Nat.le_of_ble_eq_true rfl) (Or.inl rfl) rfl rfl ?_))
    refine w_if2 rfl (fun h5 => absurd ((cn_ge (a := n) (b := 100) (by omega) (by omega)).mp h5) (by omega)) (fun _ => ?_)
    (repeat (first | refine w_iadd1 rfl ?_ | refine w_isub1 rfl ?_ | refine w_iinc1 rfl rfl ?_ | refine w_s rfl rfl ?_ | refine w_get rfl rfl rfl rfl ?_ | refine w_nnl rfl ?_ | refine w_nnlR rfl ?_ | refine w_nul rfl ?_ | refine w_nulR rfl ?_ | refine w_ldc rfl rfl ?_ | refine w_ldc2 rfl rfl ?_ | refine w_put rfl rfl rfl (Nat.le_of_ble_eq_true rfl) (Or.inl rfl) rfl rfl ?_))
    refine w_if1 rfl (fun _ => ?_) (fun h5 => absurd (c_Leq.mpr rfl) h5)
    exact w_lv (fin G [] h1 h2 h3) rfl ⟨rfl, trivial⟩
  have st : ∀ (G R n : Nat), n < 100 → 0 < R → G < 9223372036854775808 → R < 9223372036854775808 → ax_wp ax_run M_ML_commonDivisor (fun r' => r' = (.inl (some (.long (Int64.ofInt (Nat.gcd A 40320 : Nat)))), h)) 9 [(4, .long (Int64.ofInt (R : Int))), (6, .long (Int64.ofInt (G % R : Nat))), (8, .int (nI (n + 1)))] [] h → ax_wp ax_run M_ML_commonDivisor (fun r' => r' = (.inl (some (.long (Int64.ofInt (Nat.gcd A 40320 : Nat)))), h)) 9 [(4, .long (Int64.ofInt (G : Int))), (6, .long (Int64.ofInt (R : Int))), (8, .int (nI n))] [] h := by
    intro G R n hn hR hG1 hR1 k
    have eR : (Int64.ofInt (R : Int)).toInt = R := q_ofIL (by omega) (by omega)
    have eG : (Int64.ofInt (G : Int)).toInt = G := q_ofIL (by omega) (by omega)
    have em : Int64.ofInt (G : Int) - Int64.ofInt (G : Int) / Int64.ofInt (R : Int) * Int64.ofInt (R : Int) = Int64.ofInt (G % R : Nat) := q_toL (q_modL eG eR hG1)
    (repeat (first | refine w_iadd1 rfl ?_ | refine w_isub1 rfl ?_ | refine w_iinc1 rfl rfl ?_ | refine w_s rfl rfl ?_ | refine w_get rfl rfl rfl rfl ?_ | refine w_nnl rfl ?_ | refine w_nnlR rfl ?_ | refine w_nul rfl ?_ | refine w_nulR rfl ?_ | refine w_ldc rfl rfl ?_ | refine w_ldc2 rfl rfl ?_ | refine w_put rfl rfl rfl (Nat.le_of_ble_eq_true rfl) (Or.inl rfl) rfl rfl ?_))
    refine w_if2 rfl (fun h5 => absurd ((cn_ge (a := n) (b := 100) (by omega) (by omega)).mp h5) (by omega)) (fun _ => ?_)
    (repeat (first | refine w_iadd1 rfl ?_ | refine w_isub1 rfl ?_ | refine w_iinc1 rfl rfl ?_ | refine w_s rfl rfl ?_ | refine w_get rfl rfl rfl rfl ?_ | refine w_nnl rfl ?_ | refine w_nnlR rfl ?_ | refine w_nul rfl ?_ | refine w_nulR rfl ?_ | refine w_ldc rfl rfl ?_ | refine w_ldc2 rfl rfl ?_ | refine w_put rfl rfl rfl (Nat.le_of_ble_eq_true rfl) (Or.inl rfl) rfl rfl ?_))
    refine w_if1 rfl (fun h5 => ?_) (fun _ => ?_)
    · have := c_Leq.mp h5
      rw [eR, q_ofNL] at this
      omega
    · (repeat (first | refine w_iadd1 rfl ?_ | refine w_isub1 rfl ?_ | refine w_iinc1 rfl rfl ?_ | refine w_s rfl rfl ?_ | refine w_get rfl rfl rfl rfl ?_ | refine w_nnl rfl ?_ | refine w_nnlR rfl ?_ | refine w_nul rfl ?_ | refine w_nulR rfl ?_ | refine w_ldc rfl rfl ?_ | refine w_ldc2 rfl rfl ?_ | refine w_put rfl rfl rfl (Nat.le_of_ble_eq_true rfl) (Or.inl rfl) rfl rfl ?_))
      refine w_lrem rfl (fun z => ?_) ?_
      · have := congrArg Int64.toInt z
        rw [eR] at this
        have h0 : ((0 : Int64)).toInt = 0 := rfl
        omega
      rw [em]
      (repeat ((fail_if_success (show ax_wp _ _ _ 9 _ _ _)); (first | refine w_iadd1 rfl ?_ | refine w_isub1 rfl ?_ | refine w_iinc1 rfl rfl ?_ | refine w_s rfl rfl ?_ | refine w_get rfl rfl rfl rfl ?_ | refine w_nnl rfl ?_ | refine w_nnlR rfl ?_ | refine w_nul rfl ?_ | refine w_nulR rfl ?_ | refine w_ldc rfl rfl ?_ | refine w_ldc2 rfl rfl ?_ | refine w_put rfl rfl rfl (Nat.le_of_ble_eq_true rfl) (Or.inl rfl) rfl rfl ?_)))
      exact w_lv k rfl ⟨rfl, rfl, rfl, trivial⟩
  have lp : ∀ (k G R n : Nat), R < 2 ^ k → n + 2 * k ≤ 98 → 1 ≤ G → G < 9223372036854775808 → R < 9223372036854775808 → Nat.gcd G R = Nat.gcd A 40320 → ax_wp ax_run M_ML_commonDivisor (fun r' => r' = (.inl (some (.long (Int64.ofInt (Nat.gcd A 40320 : Nat)))), h)) 9 [(4, .long (Int64.ofInt (G : Int))), (6, .long (Int64.ofInt (R : Int))), (8, .int (nI n))] [] h := by
    intro k
    induction k with
    | zero =>
      intro G R n h1 h2 h3 h4 h5 h6
      have hR : R = 0 := by omega
      subst hR
      exact ex G n (by omega) h3 h4 (by rw [← h6]; exact (Nat.gcd_zero_right G).symm)
    | succ k ih =>
      intro G R n h1 h2 h3 h4 h5 h6
      by_cases hR : R = 0
      · subst hR
        exact ex G n (by omega) h3 h4 (by rw [← h6]; exact (Nat.gcd_zero_right G).symm)
      · have hR0 : 0 < R := by omega
        have hm := Nat.mod_lt G hR0
        refine st G R n (by omega) hR0 h4 h5 ?_
        by_cases hr : G % R = 0
        · rw [hr]
          refine ex R (n + 1) (by omega) hR0 h5 ?_
          rw [← h6, ← q_gcd, hr, Nat.gcd_zero_right]
        · have hr0 : 0 < G % R := by omega
          have hh := q_half hr0 hm
          have hm2 := Nat.mod_lt R hr0
          refine st R (G % R) (n + 1) (by omega) hr0 h5 (by omega) ?_
          refine ih (G % R) (R % (G % R)) (n + 2) ?_ (by omega) hr0 (by omega) (by omega) ?_
          · rw [Nat.pow_succ] at h1
            omega
          · rw [q_gcd, q_gcd, h6]
  (refine ax_run_T (ax_T_of M_ML_commonDivisor rfl (Nat.le_of_ble_eq_true rfl) ?_))
  (repeat ((fail_if_success (show ax_wp _ _ _ 9 _ _ _)); (first | refine w_iadd1 rfl ?_ | refine w_isub1 rfl ?_ | refine w_iinc1 rfl rfl ?_ | refine w_s rfl rfl ?_ | refine w_get rfl rfl rfl rfl ?_ | refine w_nnl rfl ?_ | refine w_nnlR rfl ?_ | refine w_nul rfl ?_ | refine w_nulR rfl ?_ | refine w_ldc rfl rfl ?_ | refine w_ldc2 rfl rfl ?_ | refine w_put rfl rfl rfl (Nat.le_of_ble_eq_true rfl) (Or.inl rfl) rfl rfl ?_)))
  by_cases hA0 : A = 0
  · subst hA0
    refine w_lv (st 0 40320 0 (by decide) (by decide) (by decide) (by decide) ?_) rfl ⟨rfl, rfl, rfl, trivial⟩
    exact ex 40320 1 (by decide) (by decide) (by decide) (by decide)
  · exact w_lv (lp 16 A 40320 0 (by decide) (by decide) (by omega) hA (by decide) rfl) rfl ⟨rfl, rfl, rfl, trivial⟩
theorem r_absL (z : Int) (h1 : -1000000000 ≤ z) (h2 : z ≤ 1000000000) : ax_run m_Ma_absL [.long (Int64.ofInt z)] h (.inl (some (.long (Int64.ofInt (z.natAbs : Nat)))), h) := by
  have e : (Int64.ofInt z).toInt = z := q_ofIL (by omega) (by omega)
  (refine ax_run_T (ax_T_of M_Ma_absL rfl (Nat.le_of_ble_eq_true rfl) ?_))
  (repeat (first | refine w_iadd1 rfl ?_ | refine w_isub1 rfl ?_ | refine w_iinc1 rfl rfl ?_ | refine w_s rfl rfl ?_ | refine w_get rfl rfl rfl rfl ?_ | refine w_nnl rfl ?_ | refine w_nnlR rfl ?_ | refine w_nul rfl ?_ | refine w_nulR rfl ?_ | refine w_ldc rfl rfl ?_ | refine w_ldc2 rfl rfl ?_ | refine w_put rfl rfl rfl (Nat.le_of_ble_eq_true rfl) (Or.inl rfl) rfl rfl ?_))
  refine w_if1 rfl (fun h5 => ?_) (fun h5 => ?_)
  · have h6 := c_Lge.mp h5
    rw [e, q_ofNL] at h6
    (repeat (first | refine w_iadd1 rfl ?_ | refine w_isub1 rfl ?_ | refine w_iinc1 rfl rfl ?_ | refine w_s rfl rfl ?_ | refine w_get rfl rfl rfl rfl ?_ | refine w_nnl rfl ?_ | refine w_nnlR rfl ?_ | refine w_nul rfl ?_ | refine w_nulR rfl ?_ | refine w_ldc rfl rfl ?_ | refine w_ldc2 rfl rfl ?_ | refine w_put rfl rfl rfl (Nat.le_of_ble_eq_true rfl) (Or.inl rfl) rfl rfl ?_))
    refine w_lret rfl rfl ?_
    congr 4
    apply q_toL
    rw [e]
    omega
  · have h6 : ¬ (Int64.ofNat 0).toInt ≤ (Int64.ofInt z).toInt := fun w => h5 (c_Lge.mpr w)
    rw [e, q_ofNL] at h6
    (repeat (first | refine w_iadd1 rfl ?_ | refine w_isub1 rfl ?_ | refine w_iinc1 rfl rfl ?_ | refine w_s rfl rfl ?_ | refine w_get rfl rfl rfl rfl ?_ | refine w_nnl rfl ?_ | refine w_nnlR rfl ?_ | refine w_nul rfl ?_ | refine w_nulR rfl ?_ | refine w_ldc rfl rfl ?_ | refine w_ldc2 rfl rfl ?_ | refine w_put rfl rfl rfl (Nat.le_of_ble_eq_true rfl) (Or.inl rfl) rfl rfl ?_))
    refine w_lret rfl rfl ?_
    congr 4
    apply q_toL
    rw [q_negL, e]
    omega
theorem ax_abv_b (hc : CellOk c) (l k : Nat) (hl : l < 8) (hk : k < 16) : -1000000 ≤ ax_abv c.ab c.be l k ∧ ax_abv c.ab c.be l k ≤ 1000000 := by
  have h1 := ax_un_b hc (i := 16 * l + k) (by omega)
  have h2 := ax_sm_b hc (i := 16 * l) 16 (by omega)
  unfold ax_abv
  omega
/-- the two parts of the balance -/
def ax_bal (z : Int) (p : Int32) : Int64 := (if p = 0 then Int64.ofInt z else Int64.ofInt (40320 : Nat)) / Int64.ofInt (Nat.gcd z.natAbs 40320 : Nat)
def sp_balance (c : ax_St) (l k p : Int32) : ax_SR := if ¬ (0 ≤ l.toInt ∧ l.toInt < 8 ∧ 0 ≤ k.toInt ∧ k.toInt < 16 ∧ 0 ≤ p.toInt ∧ p.toInt ≤ 1) then .inr 0 else .inl (.long (ax_bal (ax_abv c.ab c.be l.toInt.toNat k.toInt.toNat) p), c)
theorem r_balance (hc : CellOk c) (l k p : Int32) : ax_run m_ML_balance [.ref 1, .int l, .int k, .int p] (ax_hp L xs c m o pool, u) (ax_out L xs m o pool u c (sp_balance c l k p)) := by
  unfold sp_balance
  split
  · (refine ax_run_T (ax_T_of M_ML_balance rfl (Nat.le_of_ble_eq_true rfl) ?_))
    (repeat (first | refine w_iadd1 rfl ?_ | refine w_isub1 rfl ?_ | refine w_iinc1 rfl rfl ?_ | refine w_s rfl rfl ?_ | refine w_get rfl rfl rfl rfl ?_ | refine w_nnl rfl ?_ | refine w_nnlR rfl ?_ | refine w_nul rfl ?_ | refine w_nulR rfl ?_ | refine w_ldc rfl rfl ?_ | refine w_ldc2 rfl rfl ?_ | refine w_put rfl rfl rfl (Nat.le_of_ble_eq_true rfl) (Or.inl rfl) rfl rfl ?_))
    (refine w_cs rfl rfl (by first | decide | exact Nat.le_of_ble_eq_true rfl) (by exact Nat.le_of_ble_eq_true rfl) (r_noLayer l) ?_; dsimp only [Option.toList, List.drop, List.cons_append, List.nil_append])
    (repeat' (first | refine w_iadd1 rfl ?_ | refine w_isub1 rfl ?_ | refine w_iinc1 rfl rfl ?_ | refine w_s rfl rfl ?_ | refine w_get rfl rfl rfl rfl ?_ | refine w_nnl rfl ?_ | refine w_nnlR rfl ?_ | refine w_nul rfl ?_ | refine w_nulR rfl ?_ | refine w_ldc rfl rfl ?_ | refine w_ldc2 rfl rfl ?_ | refine w_put rfl rfl rfl (Nat.le_of_ble_eq_true rfl) (Or.inl rfl) rfl rfl ?_ | ((first | refine w_if2 rfl (fun _ => ?_) (fun _ => ?_) | refine w_if1 rfl (fun _ => ?_) (fun _ => ?_)) <;> try (exfalso; (((try simp only [c_eq0, c_ne0, c_Llt, c_Lle, c_Lgt, c_Lge, c_Leq, c_Lne] at *); try simp only [ax_cnd, vp_in_iff, Int32.lt_iff_toInt_lt, Int32.le_iff_toInt_le, Int64.lt_iff_toInt_lt, Int64.le_iff_toInt_le, q_eq, q_eqL, q_lg, q_nI, q_add, q_sub, q_mul, q_neg, q_addL, q_subL, q_mulL, q_negL, q_i2l, q_l2i, q_b8, q_b16, q_ofI, q_lit, q_ofNL, q_litL, ne_eq, gt_iff_lt, ge_iff_le] at *) <;> omega); done)))) <;> try (first | (refine w_thr rfl rfl rfl rfl rfl (by decide) rfl rfl ?_; rfl) | (exfalso; (((try simp only [c_eq0, c_ne0, c_Llt, c_Lle, c_Lgt, c_Lge, c_Leq, c_Lne] at *); try simp only [ax_cnd, vp_in_iff, Int32.lt_iff_toInt_lt, Int32.le_iff_toInt_le, Int64.lt_iff_toInt_lt, Int64.le_iff_toInt_le, q_eq, q_eqL, q_lg, q_nI, q_add, q_sub, q_mul, q_neg, q_addL, q_subL, q_mulL, q_negL, q_i2l, q_l2i, q_b8, q_b16, q_ofI, q_lit, q_ofNL, q_litL, ne_eq, gt_iff_lt, ge_iff_le] at *) <;> omega)))
    (refine w_cs rfl rfl (by first | decide | exact Nat.le_of_ble_eq_true rfl) (by exact Nat.le_of_ble_eq_true rfl) (r_noCell k) ?_; dsimp only [Option.toList, List.drop, List.cons_append, List.nil_append])
    (repeat' (first | refine w_iadd1 rfl ?_ | refine w_isub1 rfl ?_ | refine w_iinc1 rfl rfl ?_ | refine w_s rfl rfl ?_ | refine w_get rfl rfl rfl rfl ?_ | refine w_nnl rfl ?_ | refine w_nnlR rfl ?_ | refine w_nul rfl ?_ | refine w_nulR rfl ?_ | refine w_ldc rfl rfl ?_ | refine w_ldc2 rfl rfl ?_ | refine w_put rfl rfl rfl (Nat.le_of_ble_eq_true rfl) (Or.inl rfl) rfl rfl ?_ | ((first | refine w_if2 rfl (fun _ => ?_) (fun _ => ?_) | refine w_if1 rfl (fun _ => ?_) (fun _ => ?_)) <;> try (exfalso; (((try simp only [c_eq0, c_ne0, c_Llt, c_Lle, c_Lgt, c_Lge, c_Leq, c_Lne] at *); try simp only [ax_cnd, vp_in_iff, Int32.lt_iff_toInt_lt, Int32.le_iff_toInt_le, Int64.lt_iff_toInt_lt, Int64.le_iff_toInt_le, q_eq, q_eqL, q_lg, q_nI, q_add, q_sub, q_mul, q_neg, q_addL, q_subL, q_mulL, q_negL, q_i2l, q_l2i, q_b8, q_b16, q_ofI, q_lit, q_ofNL, q_litL, ne_eq, gt_iff_lt, ge_iff_le] at *) <;> omega); done)))) <;> (first | (refine w_thr rfl rfl rfl rfl rfl (by decide) rfl rfl ?_; rfl) | (exfalso; (((try simp only [c_eq0, c_ne0, c_Llt, c_Lle, c_Lgt, c_Lge, c_Leq, c_Lne] at *); try simp only [ax_cnd, vp_in_iff, Int32.lt_iff_toInt_lt, Int32.le_iff_toInt_le, Int64.lt_iff_toInt_lt, Int64.le_iff_toInt_le, q_eq, q_eqL, q_lg, q_nI, q_add, q_sub, q_mul, q_neg, q_addL, q_subL, q_mulL, q_negL, q_i2l, q_l2i, q_b8, q_b16, q_ofI, q_lit, q_ofNL, q_litL, ne_eq, gt_iff_lt, ge_iff_le] at *) <;> omega)))
  · rename_i h0
    have h1 := Decidable.not_not.mp h0
    obtain ⟨n, rfl, hn1, hn2⟩ := q_nat (x := l) (by omega)
    obtain ⟨i, rfl, hi1, hi2⟩ := q_nat (x := k) (by omega)
    have hnn : (nI n).toInt.toNat = n := by rw [← hn1]; rfl
    have hii : (nI i).toInt.toNat = i := by rw [← hi1]; rfl
    rw [hnn, hii]
    have hn8 : n < 8 := by omega
    have hi16 : i < 16 := by omega
    clear hnn hii
    have hz := ax_abv_b hc n i hn8 hi16
    have hg : 1 ≤ Nat.gcd (ax_abv c.ab c.be n i).natAbs 40320 ∧ Nat.gcd (ax_abv c.ab c.be n i).natAbs 40320 ≤ 40320 := ⟨Nat.gcd_pos_of_pos_right _ (by decide), Nat.gcd_le_right _ (by decide)⟩
    have hne : ¬ Int64.ofInt (Nat.gcd (ax_abv c.ab c.be n i).natAbs 40320 : Nat) = 0 := by
      intro z
      have := congrArg Int64.toInt z
      rw [q_ofIL (by omega) (by omega)] at this
      have h0 : ((0 : Int64)).toInt = 0 := rfl
      omega
    (refine ax_run_T (ax_T_of M_ML_balance rfl (Nat.le_of_ble_eq_true rfl) ?_))
    (repeat (first | refine w_iadd1 rfl ?_ | refine w_isub1 rfl ?_ | refine w_iinc1 rfl rfl ?_ | refine w_s rfl rfl ?_ | refine w_get rfl rfl rfl rfl ?_ | refine w_nnl rfl ?_ | refine w_nnlR rfl ?_ | refine w_nul rfl ?_ | refine w_nulR rfl ?_ | refine w_ldc rfl rfl ?_ | refine w_ldc2 rfl rfl ?_ | refine w_put rfl rfl rfl (Nat.le_of_ble_eq_true rfl) (Or.inl rfl) rfl rfl ?_))
    (refine w_cs rfl rfl (by first | decide | exact Nat.le_of_ble_eq_true rfl) (by exact Nat.le_of_ble_eq_true rfl) (r_noLayer (nI n)) ?_; dsimp only [Option.toList, List.drop, List.cons_append, List.nil_append])
    refine w_if1 rfl (fun h5 => absurd (c_ne0.mp h5) (fun z => z ⟨h1.1, h1.2.1⟩)) (fun _ => ?_)
    (repeat (first | refine w_iadd1 rfl ?_ | refine w_isub1 rfl ?_ | refine w_iinc1 rfl rfl ?_ | refine w_s rfl rfl ?_ | refine w_get rfl rfl rfl rfl ?_ | refine w_nnl rfl ?_ | refine w_nnlR rfl ?_ | refine w_nul rfl ?_ | refine w_nulR rfl ?_ | refine w_ldc rfl rfl ?_ | refine w_ldc2 rfl rfl ?_ | refine w_put rfl rfl rfl (Nat.le_of_ble_eq_true rfl) (Or.inl rfl) rfl rfl ?_))
    (refine w_cs rfl rfl (by first | decide | exact Nat.le_of_ble_eq_true rfl) (by exact Nat.le_of_ble_eq_true rfl) (r_noCell (nI i)) ?_; dsimp only [Option.toList, List.drop, List.cons_append, List.nil_append])
    refine w_if1 rfl (fun h5 => absurd (c_ne0.mp h5) (fun z => z ⟨h1.2.2.1, h1.2.2.2.1⟩)) (fun _ => ?_)
    (repeat (first | refine w_iadd1 rfl ?_ | refine w_isub1 rfl ?_ | refine w_iinc1 rfl rfl ?_ | refine w_s rfl rfl ?_ | refine w_get rfl rfl rfl rfl ?_ | refine w_nnl rfl ?_ | refine w_nnlR rfl ?_ | refine w_nul rfl ?_ | refine w_nulR rfl ?_ | refine w_ldc rfl rfl ?_ | refine w_ldc2 rfl rfl ?_ | refine w_put rfl rfl rfl (Nat.le_of_ble_eq_true rfl) (Or.inl rfl) rfl rfl ?_))
    refine w_if1 rfl (fun h5 => absurd (c_lt0.mp h5) (by omega)) (fun _ => ?_)
    (repeat (first | refine w_iadd1 rfl ?_ | refine w_isub1 rfl ?_ | refine w_iinc1 rfl rfl ?_ | refine w_s rfl rfl ?_ | refine w_get rfl rfl rfl rfl ?_ | refine w_nnl rfl ?_ | refine w_nnlR rfl ?_ | refine w_nul rfl ?_ | refine w_nulR rfl ?_ | refine w_ldc rfl rfl ?_ | refine w_ldc2 rfl rfl ?_ | refine w_put rfl rfl rfl (Nat.le_of_ble_eq_true rfl) (Or.inl rfl) rfl rfl ?_))
    refine w_if2 rfl (fun _ => ?_) (fun h5 => absurd (Int32.le_iff_toInt_le.mpr (by rw [q_ofI]; omega)) h5)
    (repeat (first | refine w_iadd1 rfl ?_ | refine w_isub1 rfl ?_ | refine w_iinc1 rfl rfl ?_ | refine w_s rfl rfl ?_ | refine w_get rfl rfl rfl rfl ?_ | refine w_nnl rfl ?_ | refine w_nnlR rfl ?_ | refine w_nul rfl ?_ | refine w_nulR rfl ?_ | refine w_ldc rfl rfl ?_ | refine w_ldc2 rfl rfl ?_ | refine w_put rfl rfl rfl (Nat.le_of_ble_eq_true rfl) (Or.inl rfl) rfl rfl ?_))
    (refine w_cv rfl rfl rfl rfl (by exact Nat.le_of_ble_eq_true rfl) (by exact Nat.le_of_ble_eq_true rfl) (r_aboveMean hc n i hn8 hi16) ?_; dsimp only [Option.toList, List.drop, List.cons_append, List.nil_append])
    (repeat (first | refine w_iadd1 rfl ?_ | refine w_isub1 rfl ?_ | refine w_iinc1 rfl rfl ?_ | refine w_s rfl rfl ?_ | refine w_get rfl rfl rfl rfl ?_ | refine w_nnl rfl ?_ | refine w_nnlR rfl ?_ | refine w_nul rfl ?_ | refine w_nulR rfl ?_ | refine w_ldc rfl rfl ?_ | refine w_ldc2 rfl rfl ?_ | refine w_put rfl rfl rfl (Nat.le_of_ble_eq_true rfl) (Or.inl rfl) rfl rfl ?_))
    (refine w_cs rfl rfl (by first | decide | exact Nat.le_of_ble_eq_true rfl) (by exact Nat.le_of_ble_eq_true rfl) (r_absL (ax_abv c.ab c.be n i) (by omega) (by omega)) ?_; dsimp only [Option.toList, List.drop, List.cons_append, List.nil_append])
    (repeat (first | refine w_iadd1 rfl ?_ | refine w_isub1 rfl ?_ | refine w_iinc1 rfl rfl ?_ | refine w_s rfl rfl ?_ | refine w_get rfl rfl rfl rfl ?_ | refine w_nnl rfl ?_ | refine w_nnlR rfl ?_ | refine w_nul rfl ?_ | refine w_nulR rfl ?_ | refine w_ldc rfl rfl ?_ | refine w_ldc2 rfl rfl ?_ | refine w_put rfl rfl rfl (Nat.le_of_ble_eq_true rfl) (Or.inl rfl) rfl rfl ?_))
    (refine w_cs rfl rfl (by first | decide | exact Nat.le_of_ble_eq_true rfl) (by exact Nat.le_of_ble_eq_true rfl) (r_gcd (ax_abv c.ab c.be n i).natAbs (by omega)) ?_; dsimp only [Option.toList, List.drop, List.cons_append, List.nil_append])
    (repeat (first | refine w_iadd1 rfl ?_ | refine w_isub1 rfl ?_ | refine w_iinc1 rfl rfl ?_ | refine w_s rfl rfl ?_ | refine w_get rfl rfl rfl rfl ?_ | refine w_nnl rfl ?_ | refine w_nnlR rfl ?_ | refine w_nul rfl ?_ | refine w_nulR rfl ?_ | refine w_ldc rfl rfl ?_ | refine w_ldc2 rfl rfl ?_ | refine w_put rfl rfl rfl (Nat.le_of_ble_eq_true rfl) (Or.inl rfl) rfl rfl ?_))
    refine w_if1 rfl (fun h5 => ?_) (fun h5 => ?_)
    · have h6 : ¬ p = 0 := h5
      (repeat (first | refine w_iadd1 rfl ?_ | refine w_isub1 rfl ?_ | refine w_iinc1 rfl rfl ?_ | refine w_s rfl rfl ?_ | refine w_get rfl rfl rfl rfl ?_ | refine w_nnl rfl ?_ | refine w_nnlR rfl ?_ | refine w_nul rfl ?_ | refine w_nulR rfl ?_ | refine w_ldc rfl rfl ?_ | refine w_ldc2 rfl rfl ?_ | refine w_put rfl rfl rfl (Nat.le_of_ble_eq_true rfl) (Or.inl rfl) rfl rfl ?_))
      refine w_ldiv rfl hne ?_
      refine w_lret rfl rfl ?_
      unfold ax_bal
      rw [if_neg h6]
      rfl
    · have h6 : p = 0 := Decidable.not_not.mp h5
      (repeat (first | refine w_iadd1 rfl ?_ | refine w_isub1 rfl ?_ | refine w_iinc1 rfl rfl ?_ | refine w_s rfl rfl ?_ | refine w_get rfl rfl rfl rfl ?_ | refine w_nnl rfl ?_ | refine w_nnlR rfl ?_ | refine w_nul rfl ?_ | refine w_nulR rfl ?_ | refine w_ldc rfl rfl ?_ | refine w_ldc2 rfl rfl ?_ | refine w_put rfl rfl rfl (Nat.le_of_ble_eq_true rfl) (Or.inl rfl) rfl rfl ?_))
      refine w_ldiv rfl hne ?_
      refine w_lret rfl rfl ?_
      unfold ax_bal
      rw [if_pos h6]
      rfl
end CK
end
section
/-! the balance, reference -/
abbrev CRel (c : ax_St) (m : ax_Mo) : Prop := (∀ i, i < 128 → (m.above i).toInt = (c.ab i).toInt) ∧ (∀ i, i < 128 → (m.below i).toInt = (c.be i).toInt)
theorem CRel.a {c : ax_St} {m : ax_Mo} (h_ : CRel c m) : ∀ i, i < 128 → (m.above i).toInt = (c.ab i).toInt := h_.1
theorem CRel.b {c : ax_St} {m : ax_Mo} (h_ : CRel c m) : ∀ i, i < 128 → (m.below i).toInt = (c.be i).toInt := h_.2
section MJ
variable {L : Nat} {xs : Nat → Int32} {c : ax_St} {m : ax_Mo} {o : Nat → Int64} {pool : List (Option ax_C)} {u : Nat} {h : ax_H}
def mp_balance (c : ax_St) (m : ax_Mo) (l k p : Int32) : Value × ax_Mo := if ¬ (0 ≤ l.toInt ∧ l.toInt < 8 ∧ 0 ≤ k.toInt ∧ k.toInt < 16 ∧ (p = 0 ∨ p = 1)) then (.long 0, (ax_Mo.u_thrown m 1)) else (.long (ax_bal (ax_abv c.ab c.be l.toInt.toNat k.toInt.toNat) p), (ax_Mo.u_thrown m 0))
theorem n_unit1 (hc : CellOk c) (hR : CRel c m) {i : Nat} (hi : i < 128) : (m.above i * ((2520 : Int64) / m.below i)).toInt = (ax_un c.ab c.be i : Nat) ∧ ¬ m.below i = 0 := by
  have hA := hc.a i hi
  have hB := hc.b i hi
  have e1 : (m.above i).toInt = (((c.ab i).toInt.toNat : Nat) : Int) := by rw [hR.a i hi]; omega
  have e2 : ((2520 : Int64) / m.below i).toInt = ((2520 / (c.be i).toInt.toNat : Nat) : Int) := q_divL (m := 2520) rfl (by rw [hR.b i hi]; omega) (by decide)
  refine ⟨q_mulN e1 e2 (Nat.lt_of_le_of_lt (ax_un_b hc (i := i) hi) (by decide)), fun z => ?_⟩
  have := congrArg Int64.toInt z
  rw [hR.b i hi] at this
  have h0 : ((0 : Int64)).toInt = 0 := rfl
  omega
theorem n_balance (hc : CellOk c) (hR : CRel c m) (l k p : Int32) : ax_run m_Mo_balance [.ref 23, .int l, .int k, .int p] (ax_hp L xs c m o pool, u) (ax_mout L xs c o pool u (mp_balance c m l k p)) := by
  unfold mp_balance
  split
  · rename_i h0
    (refine ax_run_T (ax_T_of M_Mo_balance rfl (Nat.le_of_ble_eq_true rfl) ?_))
    (repeat (first | refine w_iadd1 rfl ?_ | refine w_isub1 rfl ?_ | refine w_iinc1 rfl rfl ?_ | refine w_s rfl rfl ?_ | refine w_get rfl rfl rfl rfl ?_ | refine w_nnl rfl ?_ | refine w_nnlR rfl ?_ | refine w_nul rfl ?_ | refine w_nulR rfl ?_ | refine w_ldc rfl rfl ?_ | refine w_ldc2 rfl rfl ?_ | refine w_put rfl rfl rfl (Nat.le_of_ble_eq_true rfl) (Or.inl rfl) rfl rfl ?_))
    (refine w_cs rfl rfl (by first | decide | exact Nat.le_of_ble_eq_true rfl) (by exact Nat.le_of_ble_eq_true rfl) (n_isCell l k) ?_; dsimp only [Option.toList, List.drop, List.cons_append, List.nil_append])
    refine w_if1 rfl (fun h5 => ?_) (fun h5 => ?_)
    · (repeat (first | refine w_iadd1 rfl ?_ | refine w_isub1 rfl ?_ | refine w_iinc1 rfl rfl ?_ | refine w_s rfl rfl ?_ | refine w_get rfl rfl rfl rfl ?_ | refine w_nnl rfl ?_ | refine w_nnlR rfl ?_ | refine w_nul rfl ?_ | refine w_nulR rfl ?_ | refine w_ldc rfl rfl ?_ | refine w_ldc2 rfl rfl ?_ | refine w_put rfl rfl rfl (Nat.le_of_ble_eq_true rfl) (Or.inl rfl) rfl rfl ?_))
      refine w_if1 rfl (fun h5 => absurd h5 k_eq1) (fun _ => ?_)
      (repeat (first | refine w_iadd1 rfl ?_ | refine w_isub1 rfl ?_ | refine w_iinc1 rfl rfl ?_ | refine w_s rfl rfl ?_ | refine w_get rfl rfl rfl rfl ?_ | refine w_nnl rfl ?_ | refine w_nnlR rfl ?_ | refine w_nul rfl ?_ | refine w_nulR rfl ?_ | refine w_ldc rfl rfl ?_ | refine w_ldc2 rfl rfl ?_ | refine w_put rfl rfl rfl (Nat.le_of_ble_eq_true rfl) (Or.inl rfl) rfl rfl ?_))
      exact w_lret rfl rfl rfl
    · have h6 := Decidable.not_not.mp (fun z => h5 (c_eq0.mpr z))
      (repeat (first | refine w_iadd1 rfl ?_ | refine w_isub1 rfl ?_ | refine w_iinc1 rfl rfl ?_ | refine w_s rfl rfl ?_ | refine w_get rfl rfl rfl rfl ?_ | refine w_nnl rfl ?_ | refine w_nnlR rfl ?_ | refine w_nul rfl ?_ | refine w_nulR rfl ?_ | refine w_ldc rfl rfl ?_ | refine w_ldc2 rfl rfl ?_ | refine w_put rfl rfl rfl (Nat.le_of_ble_eq_true rfl) (Or.inl rfl) rfl rfl ?_))
      refine w_if1 rfl (fun h7 => absurd (show p = 0 from h7) (fun z => h0 ⟨h6.1, h6.2.1, h6.2.2.1, h6.2.2.2, Or.inl z⟩)) (fun _ => ?_)
      (repeat (first | refine w_iadd1 rfl ?_ | refine w_isub1 rfl ?_ | refine w_iinc1 rfl rfl ?_ | refine w_s rfl rfl ?_ | refine w_get rfl rfl rfl rfl ?_ | refine w_nnl rfl ?_ | refine w_nnlR rfl ?_ | refine w_nul rfl ?_ | refine w_nulR rfl ?_ | refine w_ldc rfl rfl ?_ | refine w_ldc2 rfl rfl ?_ | refine w_put rfl rfl rfl (Nat.le_of_ble_eq_true rfl) (Or.inl rfl) rfl rfl ?_))
      refine w_if2 rfl (fun _ => ?_) (fun h7 => absurd (show p = 1 from Decidable.not_not.mp h7) (fun z => h0 ⟨h6.1, h6.2.1, h6.2.2.1, h6.2.2.2, Or.inr z⟩))
      (repeat (first | refine w_iadd1 rfl ?_ | refine w_isub1 rfl ?_ | refine w_iinc1 rfl rfl ?_ | refine w_s rfl rfl ?_ | refine w_get rfl rfl rfl rfl ?_ | refine w_nnl rfl ?_ | refine w_nnlR rfl ?_ | refine w_nul rfl ?_ | refine w_nulR rfl ?_ | refine w_ldc rfl rfl ?_ | refine w_ldc2 rfl rfl ?_ | refine w_put rfl rfl rfl (Nat.le_of_ble_eq_true rfl) (Or.inl rfl) rfl rfl ?_))
      refine w_if1 rfl (fun h5 => absurd h5 k_eq1) (fun _ => ?_)
      (repeat (first | refine w_iadd1 rfl ?_ | refine w_isub1 rfl ?_ | refine w_iinc1 rfl rfl ?_ | refine w_s rfl rfl ?_ | refine w_get rfl rfl rfl rfl ?_ | refine w_nnl rfl ?_ | refine w_nnlR rfl ?_ | refine w_nul rfl ?_ | refine w_nulR rfl ?_ | refine w_ldc rfl rfl ?_ | refine w_ldc2 rfl rfl ?_ | refine w_put rfl rfl rfl (Nat.le_of_ble_eq_true rfl) (Or.inl rfl) rfl rfl ?_))
      exact w_lret rfl rfl rfl
  · rename_i h0
    have h1 := Decidable.not_not.mp h0
    obtain ⟨n, rfl, hn1, hn2⟩ := q_nat (x := l) (by omega)
    obtain ⟨i, rfl, hi1, hi2⟩ := q_nat (x := k) (by omega)
    have hnn : (nI n).toInt.toNat = n := by rw [← hn1]; rfl
    have hii : (nI i).toInt.toNat = i := by rw [← hi1]; rfl
    rw [hnn, hii]
    have hn8 : n < 8 := by omega
    have hi16 : i < 16 := by omega
    clear hnn hii
    have hz := ax_abv_b hc n i hn8 hi16
    have hg : 1 ≤ Nat.gcd (ax_abv c.ab c.be n i).natAbs 40320 ∧ Nat.gcd (ax_abv c.ab c.be n i).natAbs 40320 ≤ 40320 := ⟨Nat.gcd_pos_of_pos_right _ (by decide), Nat.gcd_le_right _ (by decide)⟩
    have hne : ¬ Int64.ofInt (Nat.gcd (ax_abv c.ab c.be n i).natAbs 40320 : Nat) = 0 := by
      intro z
      have := congrArg Int64.toInt z
      rw [q_ofIL (by omega) (by omega)] at this
      have h0 : ((0 : Int64)).toInt = 0 := rfl
      omega
    generalize hZ : ax_abv c.ab c.be n i = Z at hz hg hne
    have fin : ∀ (lv : ax_L), ax_wp ax_run M_Mo_balance (fun r' => r' = ax_mout L xs c o pool u (.long (ax_bal Z p), (ax_Mo.u_thrown m 0))) 170 [(3, .int p), (7, .long (Int64.ofInt Z)), (11, .long (Int64.ofInt (Nat.gcd Z.natAbs 40320 : Nat)))] [] (ax_hp L xs c (ax_Mo.u_thrown m 0) o pool, u) := by
      intro _
      (repeat (first | refine w_iadd1 rfl ?_ | refine w_isub1 rfl ?_ | refine w_iinc1 rfl rfl ?_ | refine w_s rfl rfl ?_ | refine w_get rfl rfl rfl rfl ?_ | refine w_nnl rfl ?_ | refine w_nnlR rfl ?_ | refine w_nul rfl ?_ | refine w_nulR rfl ?_ | refine w_ldc rfl rfl ?_ | refine w_ldc2 rfl rfl ?_ | refine w_put rfl rfl rfl (Nat.le_of_ble_eq_true rfl) (Or.inl rfl) rfl rfl ?_))
      refine w_if1 rfl (fun h5 => ?_) (fun h5 => ?_)
      · have h6 : ¬ p = 0 := h5
        (repeat (first | refine w_iadd1 rfl ?_ | refine w_isub1 rfl ?_ | refine w_iinc1 rfl rfl ?_ | refine w_s rfl rfl ?_ | refine w_get rfl rfl rfl rfl ?_ | refine w_nnl rfl ?_ | refine w_nnlR rfl ?_ | refine w_nul rfl ?_ | refine w_nulR rfl ?_ | refine w_ldc rfl rfl ?_ | refine w_ldc2 rfl rfl ?_ | refine w_put rfl rfl rfl (Nat.le_of_ble_eq_true rfl) (Or.inl rfl) rfl rfl ?_))
        refine w_ldiv rfl hne ?_
        refine w_lret rfl rfl ?_
        unfold ax_bal
        rw [if_neg h6]
        rfl
      · have h6 : p = 0 := Decidable.not_not.mp h5
        (repeat (first | refine w_iadd1 rfl ?_ | refine w_isub1 rfl ?_ | refine w_iinc1 rfl rfl ?_ | refine w_s rfl rfl ?_ | refine w_get rfl rfl rfl rfl ?_ | refine w_nnl rfl ?_ | refine w_nnlR rfl ?_ | refine w_nul rfl ?_ | refine w_nulR rfl ?_ | refine w_ldc rfl rfl ?_ | refine w_ldc2 rfl rfl ?_ | refine w_put rfl rfl rfl (Nat.le_of_ble_eq_true rfl) (Or.inl rfl) rfl rfl ?_))
        refine w_ldiv rfl hne ?_
        (repeat (first | refine w_iadd1 rfl ?_ | refine w_isub1 rfl ?_ | refine w_iinc1 rfl rfl ?_ | refine w_s rfl rfl ?_ | refine w_get rfl rfl rfl rfl ?_ | refine w_nnl rfl ?_ | refine w_nnlR rfl ?_ | refine w_nul rfl ?_ | refine w_nulR rfl ?_ | refine w_ldc rfl rfl ?_ | refine w_ldc2 rfl rfl ?_ | refine w_put rfl rfl rfl (Nat.le_of_ble_eq_true rfl) (Or.inl rfl) rfl rfl ?_))
        refine w_lret rfl rfl ?_
        unfold ax_bal
        rw [if_pos h6]
        rfl
    have l2 : ∀ (A B : Nat), A < 9223372036854775808 → B < 9223372036854775808 → Nat.gcd B A = Nat.gcd Z.natAbs 40320 → ax_wp ax_run M_Mo_balance (fun r' => r' = ax_mout L xs c o pool u (.long (ax_bal Z p), (ax_Mo.u_thrown m 0))) 145 [(3, .int p), (7, .long (Int64.ofInt Z)), (9, .long (Int64.ofInt (A : Int))), (11, .long (Int64.ofInt (B : Int)))] [] (ax_hp L xs c (ax_Mo.u_thrown m 0) o pool, u) := by
      intro A
      induction A using Nat.strongRecOn with
      | ind A ih =>
        intro B hA hB hgc
        have eA : (Int64.ofInt (A : Int)).toInt = A := q_ofIL (by omega) (by omega)
        have eB : (Int64.ofInt (B : Int)).toInt = B := q_ofIL (by omega) (by omega)
        (repeat (first | refine w_iadd1 rfl ?_ | refine w_isub1 rfl ?_ | refine w_iinc1 rfl rfl ?_ | refine w_s rfl rfl ?_ | refine w_get rfl rfl rfl rfl ?_ | refine w_nnl rfl ?_ | refine w_nnlR rfl ?_ | refine w_nul rfl ?_ | refine w_nulR rfl ?_ | refine w_ldc rfl rfl ?_ | refine w_ldc2 rfl rfl ?_ | refine w_put rfl rfl rfl (Nat.le_of_ble_eq_true rfl) (Or.inl rfl) rfl rfl ?_))
        refine w_if1 rfl (fun h5 => ?_) (fun h5 => ?_)
        · have h6 := c_Leq.mp h5
          rw [eA, q_ofNL] at h6
          have hA0 : A = 0 := by omega
          subst hA0
          rw [Nat.gcd_zero_right] at hgc
          subst hgc
          exact w_lv (fin []) rfl ⟨rfl, rfl, rfl, trivial⟩
        · have hA0 : 0 < A := by
            apply Nat.pos_of_ne_zero
            intro z
            subst z
            exact h5 (c_Leq.mpr rfl)
          have em : Int64.ofInt (B : Int) - Int64.ofInt (B : Int) / Int64.ofInt (A : Int) * Int64.ofInt (A : Int) = Int64.ofInt (B % A : Nat) := q_toL (q_modL eB eA hB)
          (repeat (first | refine w_iadd1 rfl ?_ | refine w_isub1 rfl ?_ | refine w_iinc1 rfl rfl ?_ | refine w_s rfl rfl ?_ | refine w_get rfl rfl rfl rfl ?_ | refine w_nnl rfl ?_ | refine w_nnlR rfl ?_ | refine w_nul rfl ?_ | refine w_nulR rfl ?_ | refine w_ldc rfl rfl ?_ | refine w_ldc2 rfl rfl ?_ | refine w_put rfl rfl rfl (Nat.le_of_ble_eq_true rfl) (Or.inl rfl) rfl rfl ?_))
          refine w_lrem rfl (fun z => ?_) ?_
          · have := congrArg Int64.toInt z
            rw [eA] at this
            have h0 : ((0 : Int64)).toInt = 0 := rfl
            omega
          rw [em]
          (repeat ((fail_if_success (show ax_wp _ _ _ 145 _ _ _)); (first | refine w_iadd1 rfl ?_ | refine w_isub1 rfl ?_ | refine w_iinc1 rfl rfl ?_ | refine w_s rfl rfl ?_ | refine w_get rfl rfl rfl rfl ?_ | refine w_nnl rfl ?_ | refine w_nnlR rfl ?_ | refine w_nul rfl ?_ | refine w_nulR rfl ?_ | refine w_ldc rfl rfl ?_ | refine w_ldc2 rfl rfl ?_ | refine w_put rfl rfl rfl (Nat.le_of_ble_eq_true rfl) (Or.inl rfl) rfl rfl ?_)))
          have hml := Nat.mod_lt B hA0
          exact w_lv (ih (B % A) hml A (by omega) hA (by rw [q_gcd, hgc])) rfl ⟨rfl, rfl, rfl, rfl, trivial⟩
    have lp : ∀ (d s : Nat), s + d = 16 → ax_wp ax_run M_Mo_balance (fun r' => r' = ax_mout L xs c o pool u (.long (ax_bal Z p), (ax_Mo.u_thrown m 0))) 44 [(0, .ref 23), (1, .int (nI n)), (2, .int (nI i)), (3, .int p), (4, .long (Int64.ofInt (ax_sm c.ab c.be (16 * n) s : Nat))), (6, .int (nI (16 * n + s)))] [] (ax_hp L xs c (ax_Mo.u_thrown m 0) o pool, u) := by
      intro d
      induction d with
      | zero =>
        intro s hs
        have : s = 16 := by omega
        subst this
        have h2 := ax_sm_b hc (i := 16 * n) 16 (by omega)
        have h3 := ax_un_b hc (i := 16 * n + i) (by omega)
        have hu := n_unit1 hc hR (i := 16 * n + i) (by omega)
        (repeat ((fail_if_success (show ax_wp _ _ _ 53 _ _ _)); (first | refine w_iadd1 rfl ?_ | refine w_isub1 rfl ?_ | refine w_iinc1 rfl rfl ?_ | refine w_s rfl rfl ?_ | refine w_get rfl rfl rfl rfl ?_ | refine w_nnl rfl ?_ | refine w_nnlR rfl ?_ | refine w_nul rfl ?_ | refine w_nulR rfl ?_ | refine w_ldc rfl rfl ?_ | refine w_ldc2 rfl rfl ?_ | refine w_put rfl rfl rfl (Nat.le_of_ble_eq_true rfl) (Or.inl rfl) rfl rfl ?_)))
        refine w_eqI (y := nI (16 * n + 16)) (by (simp only [kb6, kb7, kb8, kb9, kb16, ki0, ki1, ki2, ki3, ki4, ki5, nI_addR, nI_mulR]; try (congr 1; omega))) ?_
        refine w_if2 rfl (fun _ => ?_) (fun h5 => absurd ((cn_ge (a := 16 * n + 16) (b := 16 * n + 16) (by omega) (by omega)).mpr (Nat.le_refl _)) h5)
        (repeat ((fail_if_success (show ax_wp _ _ _ 92 _ _ _)); (first | refine w_iadd1 rfl ?_ | refine w_isub1 rfl ?_ | refine w_iinc1 rfl rfl ?_ | refine w_s rfl rfl ?_ | refine w_get rfl rfl rfl rfl ?_ | refine w_nnl rfl ?_ | refine w_nnlR rfl ?_ | refine w_nul rfl ?_ | refine w_nulR rfl ?_ | refine w_ldc rfl rfl ?_ | refine w_ldc2 rfl rfl ?_ | refine w_put rfl rfl rfl (Nat.le_of_ble_eq_true rfl) (Or.inl rfl) rfl rfl ?_)))
        refine w_eqI (y := nI (16 * n + i)) (by (simp only [kb6, kb7, kb8, kb9, kb16, ki0, ki1, ki2, ki3, ki4, ki5, nI_addR, nI_mulR]; try (congr 1; omega))) ?_
        (repeat (first | refine w_iadd1 rfl ?_ | refine w_isub1 rfl ?_ | refine w_iinc1 rfl rfl ?_ | refine w_s rfl rfl ?_ | refine w_get rfl rfl rfl rfl ?_ | refine w_nnl rfl ?_ | refine w_nnlR rfl ?_ | refine w_nul rfl ?_ | refine w_nulR rfl ?_ | refine w_ldc rfl rfl ?_ | refine w_ldc2 rfl rfl ?_ | refine w_put rfl rfl rfl (Nat.le_of_ble_eq_true rfl) (Or.inl rfl) rfl rfl ?_))
        refine w_la rfl rfl rfl (by omega) (by decide) ?_
        (repeat (first | refine w_iadd1 rfl ?_ | refine w_isub1 rfl ?_ | refine w_iinc1 rfl rfl ?_ | refine w_s rfl rfl ?_ | refine w_get rfl rfl rfl rfl ?_ | refine w_nnl rfl ?_ | refine w_nnlR rfl ?_ | refine w_nul rfl ?_ | refine w_nulR rfl ?_ | refine w_ldc rfl rfl ?_ | refine w_ldc2 rfl rfl ?_ | refine w_put rfl rfl rfl (Nat.le_of_ble_eq_true rfl) (Or.inl rfl) rfl rfl ?_))
        refine w_la rfl rfl rfl (by omega) (by decide) ?_
        refine w_ldiv rfl hu.2 ?_
        (repeat ((fail_if_success (show ax_wp _ _ _ 120 _ _ _)); (first | refine w_iadd1 rfl ?_ | refine w_isub1 rfl ?_ | refine w_iinc1 rfl rfl ?_ | refine w_s rfl rfl ?_ | refine w_get rfl rfl rfl rfl ?_ | refine w_nnl rfl ?_ | refine w_nnlR rfl ?_ | refine w_nul rfl ?_ | refine w_nulR rfl ?_ | refine w_ldc rfl rfl ?_ | refine w_ldc2 rfl rfl ?_ | refine w_put rfl rfl rfl (Nat.le_of_ble_eq_true rfl) (Or.inl rfl) rfl rfl ?_)))
        refine w_eqL (y := Int64.ofInt Z) ?_ ?_
        · apply q_toL
          show ((16 : Int64) * m.above (16 * n + i) * ((2520 : Int64) / m.below (16 * n + i)) - Int64.ofInt ((ax_sm c.ab c.be (16 * n) 16 : Nat) : Int)).toInt = Z
          have e1 : (16 : Int64) * m.above (16 * n + i) * ((2520 : Int64) / m.below (16 * n + i)) = (16 : Int64) * (m.above (16 * n + i) * ((2520 : Int64) / m.below (16 * n + i))) := Int64.mul_assoc _ _ _
          rw [e1, q_subL, q_mulN (m := 16) rfl hu.1 (by omega), q_ofIL (by omega) (by omega), ← hZ]
          unfold ax_abv
          omega
        (repeat (first | refine w_iadd1 rfl ?_ | refine w_isub1 rfl ?_ | refine w_iinc1 rfl rfl ?_ | refine w_s rfl rfl ?_ | refine w_get rfl rfl rfl rfl ?_ | refine w_nnl rfl ?_ | refine w_nnlR rfl ?_ | refine w_nul rfl ?_ | refine w_nulR rfl ?_ | refine w_ldc rfl rfl ?_ | refine w_ldc2 rfl rfl ?_ | refine w_put rfl rfl rfl (Nat.le_of_ble_eq_true rfl) (Or.inl rfl) rfl rfl ?_))
        refine w_if1 rfl (fun h5 => ?_) (fun h5 => ?_)
        · have h6 := c_Lge.mp h5
          rw [q_ofIL (by omega) (by omega), q_ofNL] at h6
          (repeat ((fail_if_success (show ax_wp _ _ _ 138 _ _ _)); (first | refine w_iadd1 rfl ?_ | refine w_isub1 rfl ?_ | refine w_iinc1 rfl rfl ?_ | refine w_s rfl rfl ?_ | refine w_get rfl rfl rfl rfl ?_ | refine w_nnl rfl ?_ | refine w_nnlR rfl ?_ | refine w_nul rfl ?_ | refine w_nulR rfl ?_ | refine w_ldc rfl rfl ?_ | refine w_ldc2 rfl rfl ?_ | refine w_put rfl rfl rfl (Nat.le_of_ble_eq_true rfl) (Or.inl rfl) rfl rfl ?_)))
          refine w_eqL (y := Int64.ofInt (Z.natAbs : Nat)) (q_toL (by rw [q_ofIL (by omega) (by omega)]; omega)) ?_
          (repeat ((fail_if_success (show ax_wp _ _ _ 145 _ _ _)); (first | refine w_iadd1 rfl ?_ | refine w_isub1 rfl ?_ | refine w_iinc1 rfl rfl ?_ | refine w_s rfl rfl ?_ | refine w_get rfl rfl rfl rfl ?_ | refine w_nnl rfl ?_ | refine w_nnlR rfl ?_ | refine w_nul rfl ?_ | refine w_nulR rfl ?_ | refine w_ldc rfl rfl ?_ | refine w_ldc2 rfl rfl ?_ | refine w_put rfl rfl rfl (Nat.le_of_ble_eq_true rfl) (Or.inl rfl) rfl rfl ?_)))
          exact w_lv (l2 Z.natAbs 40320 (by omega) (by decide) (Nat.gcd_comm _ _)) rfl ⟨rfl, rfl, rfl, rfl, trivial⟩
        · have h6 : ¬ (Int64.ofNat 0).toInt ≤ (Int64.ofInt Z).toInt := fun w => h5 (c_Lge.mpr w)
          rw [q_ofIL (by omega) (by omega), q_ofNL] at h6
          (repeat ((fail_if_success (show ax_wp _ _ _ 138 _ _ _)); (first | refine w_iadd1 rfl ?_ | refine w_isub1 rfl ?_ | refine w_iinc1 rfl rfl ?_ | refine w_s rfl rfl ?_ | refine w_get rfl rfl rfl rfl ?_ | refine w_nnl rfl ?_ | refine w_nnlR rfl ?_ | refine w_nul rfl ?_ | refine w_nulR rfl ?_ | refine w_ldc rfl rfl ?_ | refine w_ldc2 rfl rfl ?_ | refine w_put rfl rfl rfl (Nat.le_of_ble_eq_true rfl) (Or.inl rfl) rfl rfl ?_)))
          refine w_eqL (y := Int64.ofInt (Z.natAbs : Nat)) (q_toL (by rw [q_subL, q_ofIL (by omega) (by omega), q_ofNL]; omega)) ?_
          (repeat ((fail_if_success (show ax_wp _ _ _ 145 _ _ _)); (first | refine w_iadd1 rfl ?_ | refine w_isub1 rfl ?_ | refine w_iinc1 rfl rfl ?_ | refine w_s rfl rfl ?_ | refine w_get rfl rfl rfl rfl ?_ | refine w_nnl rfl ?_ | refine w_nnlR rfl ?_ | refine w_nul rfl ?_ | refine w_nulR rfl ?_ | refine w_ldc rfl rfl ?_ | refine w_ldc2 rfl rfl ?_ | refine w_put rfl rfl rfl (Nat.le_of_ble_eq_true rfl) (Or.inl rfl) rfl rfl ?_)))
          exact w_lv (l2 Z.natAbs 40320 (by omega) (by decide) (Nat.gcd_comm _ _)) rfl ⟨rfl, rfl, rfl, rfl, trivial⟩
      | succ d ih =>
        intro s hs
        have h2 := ax_sm_b hc (i := 16 * n) s (by omega)
        have h3 := ax_un_b hc (i := 16 * n + s) (by omega)
        have hu := n_unit1 hc hR (i := 16 * n + s) (by omega)
        (repeat ((fail_if_success (show ax_wp _ _ _ 53 _ _ _)); (first | refine w_iadd1 rfl ?_ | refine w_isub1 rfl ?_ | refine w_iinc1 rfl rfl ?_ | refine w_s rfl rfl ?_ | refine w_get rfl rfl rfl rfl ?_ | refine w_nnl rfl ?_ | refine w_nnlR rfl ?_ | refine w_nul rfl ?_ | refine w_nulR rfl ?_ | refine w_ldc rfl rfl ?_ | refine w_ldc2 rfl rfl ?_ | refine w_put rfl rfl rfl (Nat.le_of_ble_eq_true rfl) (Or.inl rfl) rfl rfl ?_)))
        refine w_eqI (y := nI (16 * n + 16)) (by (simp only [kb6, kb7, kb8, kb9, kb16, ki0, ki1, ki2, ki3, ki4, ki5, nI_addR, nI_mulR]; try (congr 1; omega))) ?_
        refine w_if2 rfl (fun h5 => absurd ((cn_ge (a := 16 * n + s) (b := 16 * n + 16) (by omega) (by omega)).mp h5) (by omega)) (fun _ => ?_)
        (repeat (first | refine w_iadd1 rfl ?_ | refine w_isub1 rfl ?_ | refine w_iinc1 rfl rfl ?_ | refine w_s rfl rfl ?_ | refine w_get rfl rfl rfl rfl ?_ | refine w_nnl rfl ?_ | refine w_nnlR rfl ?_ | refine w_nul rfl ?_ | refine w_nulR rfl ?_ | refine w_ldc rfl rfl ?_ | refine w_ldc2 rfl rfl ?_ | refine w_put rfl rfl rfl (Nat.le_of_ble_eq_true rfl) (Or.inl rfl) rfl rfl ?_))
        refine w_la rfl rfl rfl (by omega) (by decide) ?_
        (repeat (first | refine w_iadd1 rfl ?_ | refine w_isub1 rfl ?_ | refine w_iinc1 rfl rfl ?_ | refine w_s rfl rfl ?_ | refine w_get rfl rfl rfl rfl ?_ | refine w_nnl rfl ?_ | refine w_nnlR rfl ?_ | refine w_nul rfl ?_ | refine w_nulR rfl ?_ | refine w_ldc rfl rfl ?_ | refine w_ldc2 rfl rfl ?_ | refine w_put rfl rfl rfl (Nat.le_of_ble_eq_true rfl) (Or.inl rfl) rfl rfl ?_))
        refine w_la rfl rfl rfl (by omega) (by decide) ?_
        refine w_ldiv rfl hu.2 ?_
        (repeat ((fail_if_success (show ax_wp _ _ _ 44 _ _ _)); (first | refine w_iadd1 rfl ?_ | refine w_isub1 rfl ?_ | refine w_iinc1 rfl rfl ?_ | refine w_s rfl rfl ?_ | refine w_get rfl rfl rfl rfl ?_ | refine w_nnl rfl ?_ | refine w_nnlR rfl ?_ | refine w_nul rfl ?_ | refine w_nulR rfl ?_ | refine w_ldc rfl rfl ?_ | refine w_ldc2 rfl rfl ?_ | refine w_put rfl rfl rfl (Nat.le_of_ble_eq_true rfl) (Or.inl rfl) rfl rfl ?_)))
        refine w_lv (ih (s + 1) (by omega)) rfl ⟨rfl, rfl, rfl, rfl, ?_, rfl, trivial⟩
        have e1 : Int64.ofInt ((ax_sm c.ab c.be (16 * n) s : Nat) : Int) + m.above (16 * n + s) * ((2520 : Int64) / m.below (16 * n + s)) = Int64.ofInt ((ax_sm c.ab c.be (16 * n) (s + 1) : Nat) : Int) := by
          apply q_toL
          exact q_addN (q_ofIL (by omega) (by omega)) hu.1 (by omega)
        rw [← e1]
        rfl
    (refine ax_run_T (ax_T_of M_Mo_balance rfl (Nat.le_of_ble_eq_true rfl) ?_))
    (repeat (first | refine w_iadd1 rfl ?_ | refine w_isub1 rfl ?_ | refine w_iinc1 rfl rfl ?_ | refine w_s rfl rfl ?_ | refine w_get rfl rfl rfl rfl ?_ | refine w_nnl rfl ?_ | refine w_nnlR rfl ?_ | refine w_nul rfl ?_ | refine w_nulR rfl ?_ | refine w_ldc rfl rfl ?_ | refine w_ldc2 rfl rfl ?_ | refine w_put rfl rfl rfl (Nat.le_of_ble_eq_true rfl) (Or.inl rfl) rfl rfl ?_))
    (refine w_cs rfl rfl (by first | decide | exact Nat.le_of_ble_eq_true rfl) (by exact Nat.le_of_ble_eq_true rfl) (n_isCell (nI n) (nI i)) ?_; dsimp only [Option.toList, List.drop, List.cons_append, List.nil_append])
    refine w_if1 rfl (fun h5 => absurd ⟨h1.1, h1.2.1, h1.2.2.1, h1.2.2.2.1⟩ (c_eq0.mp h5)) (fun _ => ?_)
    (repeat (first | refine w_iadd1 rfl ?_ | refine w_isub1 rfl ?_ | refine w_iinc1 rfl rfl ?_ | refine w_s rfl rfl ?_ | refine w_get rfl rfl rfl rfl ?_ | refine w_nnl rfl ?_ | refine w_nnlR rfl ?_ | refine w_nul rfl ?_ | refine w_nulR rfl ?_ | refine w_ldc rfl rfl ?_ | refine w_ldc2 rfl rfl ?_ | refine w_put rfl rfl rfl (Nat.le_of_ble_eq_true rfl) (Or.inl rfl) rfl rfl ?_))
    have tail : ax_wp ax_run M_Mo_balance (fun r' => r' = ax_mout L xs c o pool u (.long (ax_bal Z p), (ax_Mo.u_thrown m 0))) 18 [(0, .ref 23), (1, .int (nI n)), (2, .int (nI i)), (3, .int p)] [.ref 23] (ax_hp L xs c m o pool, u) := by
      (repeat (first | refine w_iadd1 rfl ?_ | refine w_isub1 rfl ?_ | refine w_iinc1 rfl rfl ?_ | refine w_s rfl rfl ?_ | refine w_get rfl rfl rfl rfl ?_ | refine w_nnl rfl ?_ | refine w_nnlR rfl ?_ | refine w_nul rfl ?_ | refine w_nulR rfl ?_ | refine w_ldc rfl rfl ?_ | refine w_ldc2 rfl rfl ?_ | refine w_put rfl rfl rfl (Nat.le_of_ble_eq_true rfl) (Or.inl rfl) rfl rfl ?_))
      refine w_if1 rfl (fun _ => ?_) (fun h5 => absurd rfl h5)
      (repeat ((fail_if_success (show ax_wp _ _ _ 42 _ _ _)); (first | refine w_iadd1 rfl ?_ | refine w_isub1 rfl ?_ | refine w_iinc1 rfl rfl ?_ | refine w_s rfl rfl ?_ | refine w_get rfl rfl rfl rfl ?_ | refine w_nnl rfl ?_ | refine w_nnlR rfl ?_ | refine w_nul rfl ?_ | refine w_nulR rfl ?_ | refine w_ldc rfl rfl ?_ | refine w_ldc2 rfl rfl ?_ | refine w_put rfl rfl rfl (Nat.le_of_ble_eq_true rfl) (Or.inl rfl) rfl rfl ?_)))
      refine w_eqI (y := nI (16 * n)) (by (simp only [kb6, kb7, kb8, kb9, kb16, ki0, ki1, ki2, ki3, ki4, ki5, nI_addR, nI_mulR]; try (congr 1; omega))) ?_
      (repeat ((fail_if_success (show ax_wp _ _ _ 44 _ _ _)); (first | refine w_iadd1 rfl ?_ | refine w_isub1 rfl ?_ | refine w_iinc1 rfl rfl ?_ | refine w_s rfl rfl ?_ | refine w_get rfl rfl rfl rfl ?_ | refine w_nnl rfl ?_ | refine w_nnlR rfl ?_ | refine w_nul rfl ?_ | refine w_nulR rfl ?_ | refine w_ldc rfl rfl ?_ | refine w_ldc2 rfl rfl ?_ | refine w_put rfl rfl rfl (Nat.le_of_ble_eq_true rfl) (Or.inl rfl) rfl rfl ?_)))
      exact w_lv (lp 16 0 (by omega)) rfl ⟨rfl, rfl, rfl, rfl, rfl, rfl, trivial⟩
    rcases h1.2.2.2.2 with hp | hp
    · refine w_if1 rfl (fun _ => ?_) (fun h5 => absurd hp h5)
      exact w_lv tail rfl ⟨rfl, rfl, rfl, rfl, trivial⟩
    · refine w_if1 rfl (fun h5 => absurd (show p = 0 from h5) (by rw [hp]; decide)) (fun _ => ?_)
      (repeat (first | refine w_iadd1 rfl ?_ | refine w_isub1 rfl ?_ | refine w_iinc1 rfl rfl ?_ | refine w_s rfl rfl ?_ | refine w_get rfl rfl rfl rfl ?_ | refine w_nnl rfl ?_ | refine w_nnlR rfl ?_ | refine w_nul rfl ?_ | refine w_nulR rfl ?_ | refine w_ldc rfl rfl ?_ | refine w_ldc2 rfl rfl ?_ | refine w_put rfl rfl rfl (Nat.le_of_ble_eq_true rfl) (Or.inl rfl) rfl rfl ?_))
      refine w_if2 rfl (fun h5 => absurd hp h5) (fun _ => ?_)
      exact w_lv tail rfl ⟨rfl, rfl, rfl, rfl, trivial⟩
end MJ
end
section
/-! reading: the characters at a place, digits, whole numbers -/
def nx (n : Nat) (f : Nat → Int32) (p : Nat) : Int32 := if p < n then f p else -1
abbrev dg (n : Nat) (f : Nat → Int32) (p : Nat) : Prop := 48 ≤ (nx n f p).toInt ∧ (nx n f p).toInt ≤ 57
def dc (n : Nat) (f : Nat → Int32) : Nat → Nat → Nat
  | 0, _ => 0
  | k + 1, p => if dg n f p then dc n f k (p + 1) + 1 else 0
def dv (n : Nat) (f : Nat → Int32) : Nat → Nat → Nat → Nat
  | 0, _, v => v
  | k + 1, p, v => if dg n f p then dv n f k (p + 1) (10 * v + ((nx n f p).toInt.toNat - 48)) else v
/-- how many digits, and their value -/
def wd (n : Nat) (f : Nat → Int32) (p : Nat) : Nat := dc n f 7 p
def wv (n : Nat) (f : Nat → Int32) (p : Nat) : Nat := dv n f 7 p 0
theorem dg_lt {n : Nat} {f : Nat → Int32} {p : Nat} (h : dg n f p) : p < n := by
  by_cases hp : p < n
  · exact hp
  · have h1 := h.1
    unfold nx at h1
    rw [if_neg hp] at h1
    exact absurd h1 (by decide)
theorem dc_le (n : Nat) (f : Nat → Int32) : ∀ k p, dc n f k p ≤ k := by
  intro k
  induction k with
  | zero => exact fun p => Nat.le_refl _
  | succ k ih =>
    intro p
    unfold dc
    split
    · have := ih (p + 1); omega
    · omega
theorem dc_n (n : Nat) (f : Nat → Int32) : ∀ k p, p ≤ n → p + dc n f k p ≤ n := by
  intro k
  induction k with
  | zero => exact fun p h => h
  | succ k ih =>
    intro p hp
    unfold dc
    split
    · rename_i h
      have := dg_lt h
      have := ih (p + 1) (by omega)
      omega
    · omega
theorem dc_stop (n : Nat) (f : Nat → Int32) : ∀ k p, dc n f k p < k → ¬ dg n f (p + dc n f k p) := by
  intro k
  induction k with
  | zero => intro p h; omega
  | succ k ih =>
    intro p h
    unfold dc at h ⊢
    split
    · rename_i hd
      rw [if_pos hd] at h
      have := ih (p + 1) (by omega)
      rw [show p + (dc n f k (p + 1) + 1) = p + 1 + dc n f k (p + 1) by omega]
      exact this
    · rename_i hd
      exact hd
theorem dv_lt (n : Nat) (f : Nat → Int32) : ∀ k p v, dv n f k p v < (v + 1) * 10 ^ k := by
  intro k
  induction k with
  | zero => intro p v; unfold dv; omega
  | succ k ih =>
    intro p v
    unfold dv
    have hp : 0 < 10 ^ k := Nat.pow_pos (by decide)
    rw [Nat.pow_succ]
    split
    · rename_i hd
      have h1 := ih (p + 1) (10 * v + ((nx n f p).toInt.toNat - 48))
      have h2 : 10 * v + ((nx n f p).toInt.toNat - 48) + 1 ≤ (v + 1) * 10 := by have := hd.2; omega
      have h3 := Nat.mul_le_mul_right (10 ^ k) h2
      rw [show (v + 1) * (10 ^ k * 10) = (v + 1) * 10 * 10 ^ k by rw [Nat.mul_comm (10 ^ k) 10, Nat.mul_assoc]]
      omega
    · have h2 : (v + 1) * 1 ≤ (v + 1) * (10 ^ k * 10) := Nat.mul_le_mul_left _ (by omega)
      omega
theorem wv_lt (n : Nat) (f : Nat → Int32) (p : Nat) : wv n f p < 10000000 := by
  have := dv_lt n f 7 p 0
  unfold wv
  omega
theorem wd_n {n : Nat} {f : Nat → Int32} {p : Nat} (h : p ≤ n) : p + wd n f p ≤ n := dc_n n f 7 p h
theorem wd_0 {n : Nat} {f : Nat → Int32} {p : Nat} : wd n f p = 0 ↔ ¬ dg n f p := by
  show dc n f 7 p = 0 ↔ _
  unfold dc
  split
  · rename_i h
    exact ⟨fun z => by omega, fun z => absurd h z⟩
  · rename_i h
    exact ⟨fun _ => h, fun _ => rfl⟩
/-- the number ends well -/
abbrev wok (n : Nat) (f : Nat → Int32) (p : Nat) : Prop := wd n f p ≠ 0 ∧ ¬ dg n f (p + wd n f p)
section TX
variable {L : Nat} {xs : Nat → Int32} {c : ax_St} {m : ax_Mo} {o : Nat → Int64} {pool : List (Option ax_C)} {u : Nat} {h : ax_H}
theorem r_next (hn : c.tl ≤ 400) (hp : c.pl ≤ 1000) : ax_run m_Tx_next [.ref 2] (ax_hp L xs c m o pool, u) (.inl (some (.int (nx c.tl c.ch c.pl))), (ax_hp L xs c m o pool, u)) := by
  unfold nx
  split
  · rename_i h1
    (refine ax_run_T (ax_T_of M_Tx_next rfl (Nat.le_of_ble_eq_true rfl) ?_))
    (repeat (first | refine w_iadd1 rfl ?_ | refine w_isub1 rfl ?_ | refine w_iinc1 rfl rfl ?_ | refine w_s rfl rfl ?_ | refine w_get rfl rfl rfl rfl ?_ | refine w_nnl rfl ?_ | refine w_nnlR rfl ?_ | refine w_nul rfl ?_ | refine w_nulR rfl ?_ | refine w_ldc rfl rfl ?_ | refine w_ldc2 rfl rfl ?_ | refine w_put rfl rfl rfl (Nat.le_of_ble_eq_true rfl) (Or.inl rfl) rfl rfl ?_))
    refine w_if1 rfl (fun h5 => absurd (c_lt0.mp h5) (by rw [q_nI' (by omega)]; omega)) (fun _ => ?_)
    (repeat (first | refine w_iadd1 rfl ?_ | refine w_isub1 rfl ?_ | refine w_iinc1 rfl rfl ?_ | refine w_s rfl rfl ?_ | refine w_get rfl rfl rfl rfl ?_ | refine w_nnl rfl ?_ | refine w_nnlR rfl ?_ | refine w_nul rfl ?_ | refine w_nulR rfl ?_ | refine w_ldc rfl rfl ?_ | refine w_ldc2 rfl rfl ?_ | refine w_put rfl rfl rfl (Nat.le_of_ble_eq_true rfl) (Or.inl rfl) rfl rfl ?_))
    refine w_if2 rfl (fun _ => ?_) (fun h5 => absurd ((cn_lt (a := c.pl) (b := c.tl) (by omega) (by omega)).mpr h1) h5)
    (repeat (first | refine w_iadd1 rfl ?_ | refine w_isub1 rfl ?_ | refine w_iinc1 rfl rfl ?_ | refine w_s rfl rfl ?_ | refine w_get rfl rfl rfl rfl ?_ | refine w_nnl rfl ?_ | refine w_nnlR rfl ?_ | refine w_nul rfl ?_ | refine w_nulR rfl ?_ | refine w_ldc rfl rfl ?_ | refine w_ldc2 rfl rfl ?_ | refine w_put rfl rfl rfl (Nat.le_of_ble_eq_true rfl) (Or.inl rfl) rfl rfl ?_))
    refine w_ca rfl rfl rfl (by omega) (by decide) ?_
    (refine w_iret rfl rfl rfl ?_)
    rfl
  · rename_i h1
    (refine ax_run_T (ax_T_of M_Tx_next rfl (Nat.le_of_ble_eq_true rfl) ?_))
    (repeat (first | refine w_iadd1 rfl ?_ | refine w_isub1 rfl ?_ | refine w_iinc1 rfl rfl ?_ | refine w_s rfl rfl ?_ | refine w_get rfl rfl rfl rfl ?_ | refine w_nnl rfl ?_ | refine w_nnlR rfl ?_ | refine w_nul rfl ?_ | refine w_nulR rfl ?_ | refine w_ldc rfl rfl ?_ | refine w_ldc2 rfl rfl ?_ | refine w_put rfl rfl rfl (Nat.le_of_ble_eq_true rfl) (Or.inl rfl) rfl rfl ?_))
    refine w_if1 rfl (fun h5 => absurd (c_lt0.mp h5) (by rw [q_nI' (by omega)]; omega)) (fun _ => ?_)
    (repeat (first | refine w_iadd1 rfl ?_ | refine w_isub1 rfl ?_ | refine w_iinc1 rfl rfl ?_ | refine w_s rfl rfl ?_ | refine w_get rfl rfl rfl rfl ?_ | refine w_nnl rfl ?_ | refine w_nnlR rfl ?_ | refine w_nul rfl ?_ | refine w_nulR rfl ?_ | refine w_ldc rfl rfl ?_ | refine w_ldc2 rfl rfl ?_ | refine w_put rfl rfl rfl (Nat.le_of_ble_eq_true rfl) (Or.inl rfl) rfl rfl ?_))
    refine w_if2 rfl (fun h5 => absurd ((cn_lt (a := c.pl) (b := c.tl) (by omega) (by omega)).mp h5) h1) (fun _ => ?_)
    (repeat (first | refine w_iadd1 rfl ?_ | refine w_isub1 rfl ?_ | refine w_iinc1 rfl rfl ?_ | refine w_s rfl rfl ?_ | refine w_get rfl rfl rfl rfl ?_ | refine w_nnl rfl ?_ | refine w_nnlR rfl ?_ | refine w_nul rfl ?_ | refine w_nulR rfl ?_ | refine w_ldc rfl rfl ?_ | refine w_ldc2 rfl rfl ?_ | refine w_put rfl rfl rfl (Nat.le_of_ble_eq_true rfl) (Or.inl rfl) rfl rfl ?_))
    (refine w_iret rfl rfl rfl ?_)
    rfl
theorem r_isDigit (x : Int32) : ax_run m_Tx_isDigit [.int x] h (.inl (some (.int (bI (48 ≤ x.toInt ∧ x.toInt ≤ 57)))), h) := by
  (refine ax_run_T (ax_T_of M_Tx_isDigit rfl (Nat.le_of_ble_eq_true rfl) ?_))
  (repeat' (first | refine w_iadd1 rfl ?_ | refine w_isub1 rfl ?_ | refine w_iinc1 rfl rfl ?_ | refine w_s rfl rfl ?_ | refine w_get rfl rfl rfl rfl ?_ | refine w_nnl rfl ?_ | refine w_nnlR rfl ?_ | refine w_nul rfl ?_ | refine w_nulR rfl ?_ | refine w_ldc rfl rfl ?_ | refine w_ldc2 rfl rfl ?_ | refine w_put rfl rfl rfl (Nat.le_of_ble_eq_true rfl) (Or.inl rfl) rfl rfl ?_ | ((first | refine w_if2 rfl (fun _ => ?_) (fun _ => ?_) | refine w_if1 rfl (fun _ => ?_) (fun _ => ?_)) <;> try (exfalso; (((try simp only [c_eq0, c_ne0, c_Llt, c_Lle, c_Lgt, c_Lge, c_Leq, c_Lne] at *); try simp only [ax_cnd, vp_in_iff, Int32.lt_iff_toInt_lt, Int32.le_iff_toInt_le, Int64.lt_iff_toInt_lt, Int64.le_iff_toInt_le, q_eq, q_eqL, q_lg, q_nI, q_add, q_sub, q_mul, q_neg, q_addL, q_subL, q_mulL, q_negL, q_i2l, q_l2i, q_b8, q_b16, q_ofI, q_lit, q_ofNL, q_litL, ne_eq, gt_iff_lt, ge_iff_le] at *) <;> omega); done)))) <;> (refine w_iret rfl rfl rfl ?_) <;> (first | exact bT (by (((try simp only [c_eq0, c_ne0, c_Llt, c_Lle, c_Lgt, c_Lge, c_Leq, c_Lne] at *); try simp only [ax_cnd, vp_in_iff, Int32.lt_iff_toInt_lt, Int32.le_iff_toInt_le, Int64.lt_iff_toInt_lt, Int64.le_iff_toInt_le, q_eq, q_eqL, q_lg, q_nI, q_add, q_sub, q_mul, q_neg, q_addL, q_subL, q_mulL, q_negL, q_i2l, q_l2i, q_b8, q_b16, q_ofI, q_lit, q_ofNL, q_litL, ne_eq, gt_iff_lt, ge_iff_le] at *) <;> omega)) | exact bF (by (((try simp only [c_eq0, c_ne0, c_Llt, c_Lle, c_Lgt, c_Lge, c_Leq, c_Lne] at *); try simp only [ax_cnd, vp_in_iff, Int32.lt_iff_toInt_lt, Int32.le_iff_toInt_le, Int64.lt_iff_toInt_lt, Int64.le_iff_toInt_le, q_eq, q_eqL, q_lg, q_nI, q_add, q_sub, q_mul, q_neg, q_addL, q_subL, q_mulL, q_negL, q_i2l, q_l2i, q_b8, q_b16, q_ofI, q_lit, q_ofNL, q_litL, ne_eq, gt_iff_lt, ge_iff_le] at *) <;> omega)) | (exfalso; (((try simp only [c_eq0, c_ne0, c_Llt, c_Lle, c_Lgt, c_Lge, c_Leq, c_Lne] at *); try simp only [ax_cnd, vp_in_iff, Int32.lt_iff_toInt_lt, Int32.le_iff_toInt_le, Int64.lt_iff_toInt_lt, Int64.le_iff_toInt_le, q_eq, q_eqL, q_lg, q_nI, q_add, q_sub, q_mul, q_neg, q_addL, q_subL, q_mulL, q_negL, q_i2l, q_l2i, q_b8, q_b16, q_ofI, q_lit, q_ofNL, q_litL, ne_eq, gt_iff_lt, ge_iff_le] at *) <;> omega)))
theorem r_passes1 (hn : c.tl ≤ 400) (hp : c.pl ≤ 1000) (x : Int32) (hx : nx c.tl c.ch c.pl = x) : ax_run m_Tx_passes [.ref 2, .int x] (ax_hp L xs c m o pool, u) (.inl (some (.int 1)), (ax_hp L xs (ax_St.u_pl c (c.pl + 1)) m o pool, u)) := by
  (refine ax_run_T (ax_T_of M_Tx_passes rfl (Nat.le_of_ble_eq_true rfl) ?_))
  (repeat (first | refine w_iadd1 rfl ?_ | refine w_isub1 rfl ?_ | refine w_iinc1 rfl rfl ?_ | refine w_s rfl rfl ?_ | refine w_get rfl rfl rfl rfl ?_ | refine w_nnl rfl ?_ | refine w_nnlR rfl ?_ | refine w_nul rfl ?_ | refine w_nulR rfl ?_ | refine w_ldc rfl rfl ?_ | refine w_ldc2 rfl rfl ?_ | refine w_put rfl rfl rfl (Nat.le_of_ble_eq_true rfl) (Or.inl rfl) rfl rfl ?_))
  (refine w_cv rfl rfl rfl rfl (by exact Nat.le_of_ble_eq_true rfl) (by exact Nat.le_of_ble_eq_true rfl) (r_next hn hp) ?_; dsimp only [Option.toList, List.drop, List.cons_append, List.nil_append])
  (repeat (first | refine w_iadd1 rfl ?_ | refine w_isub1 rfl ?_ | refine w_iinc1 rfl rfl ?_ | refine w_s rfl rfl ?_ | refine w_get rfl rfl rfl rfl ?_ | refine w_nnl rfl ?_ | refine w_nnlR rfl ?_ | refine w_nul rfl ?_ | refine w_nulR rfl ?_ | refine w_ldc rfl rfl ?_ | refine w_ldc2 rfl rfl ?_ | refine w_put rfl rfl rfl (Nat.le_of_ble_eq_true rfl) (Or.inl rfl) rfl rfl ?_))
  refine w_if2 rfl (fun _ => ?_) (fun h5 => absurd hx h5)
  (repeat (first | refine w_iadd1 rfl ?_ | refine w_isub1 rfl ?_ | refine w_iinc1 rfl rfl ?_ | refine w_s rfl rfl ?_ | refine w_get rfl rfl rfl rfl ?_ | refine w_nnl rfl ?_ | refine w_nnlR rfl ?_ | refine w_nul rfl ?_ | refine w_nulR rfl ?_ | refine w_ldc rfl rfl ?_ | refine w_ldc2 rfl rfl ?_ | refine w_put rfl rfl rfl (Nat.le_of_ble_eq_true rfl) (Or.inl rfl) rfl rfl ?_))
  (refine w_iret rfl rfl rfl ?_)
  rfl
theorem r_passes0 (hn : c.tl ≤ 400) (hp : c.pl ≤ 1000) (x : Int32) (hx : ¬ nx c.tl c.ch c.pl = x) : ax_run m_Tx_passes [.ref 2, .int x] (ax_hp L xs c m o pool, u) (.inl (some (.int 0)), (ax_hp L xs c m o pool, u)) := by
  (refine ax_run_T (ax_T_of M_Tx_passes rfl (Nat.le_of_ble_eq_true rfl) ?_))
  (repeat (first | refine w_iadd1 rfl ?_ | refine w_isub1 rfl ?_ | refine w_iinc1 rfl rfl ?_ | refine w_s rfl rfl ?_ | refine w_get rfl rfl rfl rfl ?_ | refine w_nnl rfl ?_ | refine w_nnlR rfl ?_ | refine w_nul rfl ?_ | refine w_nulR rfl ?_ | refine w_ldc rfl rfl ?_ | refine w_ldc2 rfl rfl ?_ | refine w_put rfl rfl rfl (Nat.le_of_ble_eq_true rfl) (Or.inl rfl) rfl rfl ?_))
  (refine w_cv rfl rfl rfl rfl (by exact Nat.le_of_ble_eq_true rfl) (by exact Nat.le_of_ble_eq_true rfl) (r_next hn hp) ?_; dsimp only [Option.toList, List.drop, List.cons_append, List.nil_append])
  (repeat (first | refine w_iadd1 rfl ?_ | refine w_isub1 rfl ?_ | refine w_iinc1 rfl rfl ?_ | refine w_s rfl rfl ?_ | refine w_get rfl rfl rfl rfl ?_ | refine w_nnl rfl ?_ | refine w_nnlR rfl ?_ | refine w_nul rfl ?_ | refine w_nulR rfl ?_ | refine w_ldc rfl rfl ?_ | refine w_ldc2 rfl rfl ?_ | refine w_put rfl rfl rfl (Nat.le_of_ble_eq_true rfl) (Or.inl rfl) rfl rfl ?_))
  refine w_if2 rfl (fun h5 => absurd h5 hx) (fun _ => ?_)
  (repeat (first | refine w_iadd1 rfl ?_ | refine w_isub1 rfl ?_ | refine w_iinc1 rfl rfl ?_ | refine w_s rfl rfl ?_ | refine w_get rfl rfl rfl rfl ?_ | refine w_nnl rfl ?_ | refine w_nnlR rfl ?_ | refine w_nul rfl ?_ | refine w_nulR rfl ?_ | refine w_ldc rfl rfl ?_ | refine w_ldc2 rfl rfl ?_ | refine w_put rfl rfl rfl (Nat.le_of_ble_eq_true rfl) (Or.inl rfl) rfl rfl ?_))
  (refine w_iret rfl rfl rfl ?_)
  rfl
theorem q_dig (v e : Nat) (x : Int32) (hv : v < 100000000) (hx : x.toInt = (e : Int)) (h1 : 48 ≤ e) (h2 : e ≤ 57) : nI v * (Int8.ofInt 10).toInt32 + (x - (Int8.ofInt 48).toInt32) = nI (10 * v + (e - 48)) := by
  have h3 : x = nI e := q_nIof hx (by omega)
  subst h3
  have h4 : nI e - (Int8.ofInt 48).toInt32 = nI (e - 48) := by
    rw [q_eq, q_sub, q_nI, q_nI, q_b8]
    omega
  rw [h4, show (Int8.ofInt 10).toInt32 = nI 10 from by decide, nI_mulR, nI_addR, Nat.mul_comm v 10]
theorem r_whole0 (hn : c.tl ≤ 400) (hp : c.pl ≤ 1000) (hd : wd c.tl c.ch c.pl = 0) : ax_run m_Tx_readWhole [.ref 2] (ax_hp L xs c m o pool, u) (.inl (some (.int (-1))), (ax_hp L xs c m o pool, u)) := by
  have h1 := wd_0.mp hd
  (refine ax_run_T (ax_T_of M_Tx_readWhole rfl (Nat.le_of_ble_eq_true rfl) ?_))
  (repeat (first | refine w_iadd1 rfl ?_ | refine w_isub1 rfl ?_ | refine w_iinc1 rfl rfl ?_ | refine w_s rfl rfl ?_ | refine w_get rfl rfl rfl rfl ?_ | refine w_nnl rfl ?_ | refine w_nnlR rfl ?_ | refine w_nul rfl ?_ | refine w_nulR rfl ?_ | refine w_ldc rfl rfl ?_ | refine w_ldc2 rfl rfl ?_ | refine w_put rfl rfl rfl (Nat.le_of_ble_eq_true rfl) (Or.inl rfl) rfl rfl ?_))
  (refine w_cv rfl rfl rfl rfl (by exact Nat.le_of_ble_eq_true rfl) (by exact Nat.le_of_ble_eq_true rfl) (r_next hn hp) ?_; dsimp only [Option.toList, List.drop, List.cons_append, List.nil_append])
  (refine w_cs rfl rfl (by first | decide | exact Nat.le_of_ble_eq_true rfl) (by exact Nat.le_of_ble_eq_true rfl) (r_isDigit _) ?_; dsimp only [Option.toList, List.drop, List.cons_append, List.nil_append])
  refine w_if1 rfl (fun h5 => absurd (c_ne0.mp h5) h1) (fun _ => ?_)
  (repeat (first | refine w_iadd1 rfl ?_ | refine w_isub1 rfl ?_ | refine w_iinc1 rfl rfl ?_ | refine w_s rfl rfl ?_ | refine w_get rfl rfl rfl rfl ?_ | refine w_nnl rfl ?_ | refine w_nnlR rfl ?_ | refine w_nul rfl ?_ | refine w_nulR rfl ?_ | refine w_ldc rfl rfl ?_ | refine w_ldc2 rfl rfl ?_ | refine w_put rfl rfl rfl (Nat.le_of_ble_eq_true rfl) (Or.inl rfl) rfl rfl ?_))
  (refine w_iret rfl rfl rfl ?_)
  rfl
theorem r_whole1 (hn : c.tl ≤ 400) (hp : c.pl ≤ c.tl) (hd : wd c.tl c.ch c.pl ≠ 0) : ax_run m_Tx_readWhole [.ref 2] (ax_hp L xs c m o pool, u) (.inl (some (.int (nI (wv c.tl c.ch c.pl)))), (ax_hp L xs (ax_St.u_pl c (c.pl + wd c.tl c.ch c.pl)) m o pool, u)) := by
  have h1 : dg c.tl c.ch c.pl := Decidable.not_not.mp (fun z => hd (wd_0.mpr z))
  have lp : ∀ (k j p v : Nat), j + k = 7 → p ≤ c.tl → v < 10 ^ j → ax_wp ax_run M_Tx_readWhole (fun r' => r' = (.inl (some (.int (nI (dv c.tl c.ch k p v)))), (ax_hp L xs (ax_St.u_pl c (p + dc c.tl c.ch k p)) m o pool, u))) 16 [(0, .ref 2), (1, .int (nI v)), (2, .int (nI j))] [] (ax_hp L xs (ax_St.u_pl c p) m o pool, u) := by
    intro k
    induction k with
    | zero =>
      intro j p v hj hpl hv
      have : j = 7 := by omega
      subst this
      (repeat (first | refine w_iadd1 rfl ?_ | refine w_isub1 rfl ?_ | refine w_iinc1 rfl rfl ?_ | refine w_s rfl rfl ?_ | refine w_get rfl rfl rfl rfl ?_ | refine w_nnl rfl ?_ | refine w_nnlR rfl ?_ | refine w_nul rfl ?_ | refine w_nulR rfl ?_ | refine w_ldc rfl rfl ?_ | refine w_ldc2 rfl rfl ?_ | refine w_put rfl rfl rfl (Nat.le_of_ble_eq_true rfl) (Or.inl rfl) rfl rfl ?_))
      refine w_if2 rfl (fun _ => ?_) (fun h5 => absurd ((cn_ge (a := 7) (b := 7) (by omega) (by omega)).mpr (Nat.le_refl _)) h5)
      (repeat (first | refine w_iadd1 rfl ?_ | refine w_isub1 rfl ?_ | refine w_iinc1 rfl rfl ?_ | refine w_s rfl rfl ?_ | refine w_get rfl rfl rfl rfl ?_ | refine w_nnl rfl ?_ | refine w_nnlR rfl ?_ | refine w_nul rfl ?_ | refine w_nulR rfl ?_ | refine w_ldc rfl rfl ?_ | refine w_ldc2 rfl rfl ?_ | refine w_put rfl rfl rfl (Nat.le_of_ble_eq_true rfl) (Or.inl rfl) rfl rfl ?_))
      (refine w_iret rfl rfl rfl ?_)
      rfl
    | succ k ih =>
      intro j p v hj hpl hv
      have hv2 : v < 100000000 := Nat.lt_of_lt_of_le hv (Nat.le_trans (Nat.pow_le_pow_right (by decide) (show j ≤ 7 by omega)) (by decide))
      (repeat (first | refine w_iadd1 rfl ?_ | refine w_isub1 rfl ?_ | refine w_iinc1 rfl rfl ?_ | refine w_s rfl rfl ?_ | refine w_get rfl rfl rfl rfl ?_ | refine w_nnl rfl ?_ | refine w_nnlR rfl ?_ | refine w_nul rfl ?_ | refine w_nulR rfl ?_ | refine w_ldc rfl rfl ?_ | refine w_ldc2 rfl rfl ?_ | refine w_put rfl rfl rfl (Nat.le_of_ble_eq_true rfl) (Or.inl rfl) rfl rfl ?_))
      refine w_if2 rfl (fun h5 => absurd ((cn_ge (a := j) (b := 7) (by omega) (by omega)).mp h5) (by omega)) (fun _ => ?_)
      (repeat (first | refine w_iadd1 rfl ?_ | refine w_isub1 rfl ?_ | refine w_iinc1 rfl rfl ?_ | refine w_s rfl rfl ?_ | refine w_get rfl rfl rfl rfl ?_ | refine w_nnl rfl ?_ | refine w_nnlR rfl ?_ | refine w_nul rfl ?_ | refine w_nulR rfl ?_ | refine w_ldc rfl rfl ?_ | refine w_ldc2 rfl rfl ?_ | refine w_put rfl rfl rfl (Nat.le_of_ble_eq_true rfl) (Or.inl rfl) rfl rfl ?_))
      (refine w_cv rfl rfl rfl rfl (by exact Nat.le_of_ble_eq_true rfl) (by exact Nat.le_of_ble_eq_true rfl) (r_next (c := (ax_St.u_pl c p)) hn (by show p ≤ 1000; omega)) ?_; dsimp only [Option.toList, List.drop, List.cons_append, List.nil_append])
      (refine w_cs rfl rfl (by first | decide | exact Nat.le_of_ble_eq_true rfl) (by exact Nat.le_of_ble_eq_true rfl) (r_isDigit _) ?_; dsimp only [Option.toList, List.drop, List.cons_append, List.nil_append])
      refine w_if1 rfl (fun h5 => ?_) (fun h5 => ?_)
      · have h6 : ¬ dg c.tl c.ch p := c_eq0.mp h5
        (repeat (first | refine w_iadd1 rfl ?_ | refine w_isub1 rfl ?_ | refine w_iinc1 rfl rfl ?_ | refine w_s rfl rfl ?_ | refine w_get rfl rfl rfl rfl ?_ | refine w_nnl rfl ?_ | refine w_nnlR rfl ?_ | refine w_nul rfl ?_ | refine w_nulR rfl ?_ | refine w_ldc rfl rfl ?_ | refine w_ldc2 rfl rfl ?_ | refine w_put rfl rfl rfl (Nat.le_of_ble_eq_true rfl) (Or.inl rfl) rfl rfl ?_))
        (refine w_iret rfl rfl rfl ?_)
        unfold dv dc
        rw [if_neg h6, if_neg h6]
        rfl
      · have h6 : dg c.tl c.ch p := Decidable.not_not.mp (fun z => h5 (c_eq0.mpr z))
        obtain ⟨e, he, he2, -⟩ := q_nat (x := nx c.tl c.ch p) (by have := h6.1; omega)
        have h7 := h6.1
        have h8 := h6.2
        have hlt := dg_lt h6
        (repeat (first | refine w_iadd1 rfl ?_ | refine w_isub1 rfl ?_ | refine w_iinc1 rfl rfl ?_ | refine w_s rfl rfl ?_ | refine w_get rfl rfl rfl rfl ?_ | refine w_nnl rfl ?_ | refine w_nnlR rfl ?_ | refine w_nul rfl ?_ | refine w_nulR rfl ?_ | refine w_ldc rfl rfl ?_ | refine w_ldc2 rfl rfl ?_ | refine w_put rfl rfl rfl (Nat.le_of_ble_eq_true rfl) (Or.inl rfl) rfl rfl ?_))
        (refine w_cv rfl rfl rfl rfl (by exact Nat.le_of_ble_eq_true rfl) (by exact Nat.le_of_ble_eq_true rfl) (r_next (c := (ax_St.u_pl c p)) hn (by show p ≤ 1000; omega)) ?_; dsimp only [Option.toList, List.drop, List.cons_append, List.nil_append])
        (repeat ((fail_if_success (show ax_wp _ _ _ 44 _ _ _)); (first | refine w_iadd1 rfl ?_ | refine w_isub1 rfl ?_ | refine w_iinc1 rfl rfl ?_ | refine w_s rfl rfl ?_ | refine w_get rfl rfl rfl rfl ?_ | refine w_nnl rfl ?_ | refine w_nnlR rfl ?_ | refine w_nul rfl ?_ | refine w_nulR rfl ?_ | refine w_ldc rfl rfl ?_ | refine w_ldc2 rfl rfl ?_ | refine w_put rfl rfl rfl (Nat.le_of_ble_eq_true rfl) (Or.inl rfl) rfl rfl ?_)))
        refine w_eqI (y := nI (10 * v + ((nx c.tl c.ch p).toInt.toNat - 48))) ?_ ?_
        · have h9 := q_dig v e (nx c.tl c.ch p) hv2 (by omega) (by omega) (by omega)
          rw [show (nx c.tl c.ch p).toInt.toNat = e by omega]
          exact h9
        (repeat ((fail_if_success (show ax_wp _ _ _ 16 _ _ _)); (first | refine w_iadd1 rfl ?_ | refine w_isub1 rfl ?_ | refine w_iinc1 rfl rfl ?_ | refine w_s rfl rfl ?_ | refine w_get rfl rfl rfl rfl ?_ | refine w_nnl rfl ?_ | refine w_nnlR rfl ?_ | refine w_nul rfl ?_ | refine w_nulR rfl ?_ | refine w_ldc rfl rfl ?_ | refine w_ldc2 rfl rfl ?_ | refine w_put rfl rfl rfl (Nat.le_of_ble_eq_true rfl) (Or.inl rfl) rfl rfl ?_)))
        unfold dv dc
        rw [if_pos h6, if_pos h6]
        have hpow : 10 * v + ((nx c.tl c.ch p).toInt.toNat - 48) < 10 ^ (j + 1) := by
          rw [Nat.pow_succ]
          omega
        have := ih (j + 1) (p + 1) (10 * v + ((nx c.tl c.ch p).toInt.toNat - 48)) (by omega) (by omega) hpow
        rw [show p + (dc c.tl c.ch k (p + 1) + 1) = p + 1 + dc c.tl c.ch k (p + 1) by omega]
        exact w_lv this rfl ⟨rfl, rfl, rfl, trivial⟩
  (refine ax_run_T (ax_T_of M_Tx_readWhole rfl (Nat.le_of_ble_eq_true rfl) ?_))
  (repeat (first | refine w_iadd1 rfl ?_ | refine w_isub1 rfl ?_ | refine w_iinc1 rfl rfl ?_ | refine w_s rfl rfl ?_ | refine w_get rfl rfl rfl rfl ?_ | refine w_nnl rfl ?_ | refine w_nnlR rfl ?_ | refine w_nul rfl ?_ | refine w_nulR rfl ?_ | refine w_ldc rfl rfl ?_ | refine w_ldc2 rfl rfl ?_ | refine w_put rfl rfl rfl (Nat.le_of_ble_eq_true rfl) (Or.inl rfl) rfl rfl ?_))
  (refine w_cv rfl rfl rfl rfl (by exact Nat.le_of_ble_eq_true rfl) (by exact Nat.le_of_ble_eq_true rfl) (r_next hn (by omega)) ?_; dsimp only [Option.toList, List.drop, List.cons_append, List.nil_append])
  (refine w_cs rfl rfl (by first | decide | exact Nat.le_of_ble_eq_true rfl) (by exact Nat.le_of_ble_eq_true rfl) (r_isDigit _) ?_; dsimp only [Option.toList, List.drop, List.cons_append, List.nil_append])
  refine w_if1 rfl (fun _ => ?_) (fun h5 => absurd (c_ne0.mpr h1) h5)
  (repeat ((fail_if_success (show ax_wp _ _ _ 16 _ _ _)); (first | refine w_iadd1 rfl ?_ | refine w_isub1 rfl ?_ | refine w_iinc1 rfl rfl ?_ | refine w_s rfl rfl ?_ | refine w_get rfl rfl rfl rfl ?_ | refine w_nnl rfl ?_ | refine w_nnlR rfl ?_ | refine w_nul rfl ?_ | refine w_nulR rfl ?_ | refine w_ldc rfl rfl ?_ | refine w_ldc2 rfl rfl ?_ | refine w_put rfl rfl rfl (Nat.le_of_ble_eq_true rfl) (Or.inl rfl) rfl rfl ?_)))
  exact w_lv (lp 7 0 c.pl 0 (by decide) hp (by decide)) rfl ⟨rfl, rfl, rfl, trivial⟩
end TX
end
section
/-! what a text says, apart from any machine -/
abbrev ax_Rw : Type := (Nat → Nat) × (Nat) × (Nat → Nat) × (Nat → Nat) × (Nat)
abbrev ax_Rw.lim (c_ : ax_Rw) : Nat → Nat := c_.1
abbrev ax_Rw.s (c_ : ax_Rw) : Nat := c_.2.1
abbrev ax_Rw.fr (c_ : ax_Rw) : Nat → Nat := c_.2.2.1
abbrev ax_Rw.ce (c_ : ax_Rw) : Nat → Nat := c_.2.2.2.1
abbrev ax_Rw.dy (c_ : ax_Rw) : Nat := c_.2.2.2.2
abbrev ax_Rw.u_lim (c_ : ax_Rw) (z_ : Nat → Nat) : ax_Rw := (z_, c_.2)
abbrev ax_Rw.u_s (c_ : ax_Rw) (z_ : Nat) : ax_Rw := (c_.1, z_, c_.2.2)
abbrev ax_Rw.u_fr (c_ : ax_Rw) (z_ : Nat → Nat) : ax_Rw := (c_.1, c_.2.1, z_, c_.2.2.2)
abbrev ax_Rw.u_ce (c_ : ax_Rw) (z_ : Nat → Nat) : ax_Rw := (c_.1, c_.2.1, c_.2.2.1, z_, c_.2.2.2.2)
abbrev ax_Rw.u_dy (c_ : ax_Rw) (z_ : Nat) : ax_Rw := (c_.1, c_.2.1, c_.2.2.1, c_.2.2.2.1, z_)
section RD
variable (n : Nat) (f : Nat → Int32)
/-- limits number i to 5, k of them, from p on -/
def rl : Nat → Nat → Nat → (Nat → Nat) → Nat ⊕ (Nat × (Nat → Nat))
  | 0, _, p, l => .inr (p, l)
  | k + 1, i, p, l =>
    if i ≠ 0 ∧ nx n f p ≠ 44 then .inl p
    else if wok n f (if i = 0 then p else p + 1) then rl k (i + 1) ((if i = 0 then p else p + 1) + wd n f (if i = 0 then p else p + 1)) (va_up l i (wv n f (if i = 0 then p else p + 1)))
    else .inl ((if i = 0 then p else p + 1) + wd n f (if i = 0 then p else p + 1))
/-- steps -/
def rs : Nat → Nat → Nat → (Nat → Nat) → (Nat → Nat) → Nat ⊕ (Nat × Nat × (Nat → Nat) × (Nat → Nat))
  | 0, _, p, _, _ => .inl p
  | k + 1, s, p, fr, ce =>
    if ¬ wok n f p then .inl (p + wd n f p)
    else if nx n f (p + wd n f p) ≠ 64 then .inl (p + wd n f p)
    else if ¬ wok n f (p + wd n f p + 1) then .inl (p + wd n f p + 1 + wd n f (p + wd n f p + 1))
    else if nx n f (p + wd n f p + 1 + wd n f (p + wd n f p + 1)) = 44 then rs k (s + 1) (p + wd n f p + 1 + wd n f (p + wd n f p + 1) + 1) (va_up fr s (wv n f p)) (va_up ce s (wv n f (p + wd n f p + 1)))
    else .inr (p + wd n f p + 1 + wd n f (p + wd n f p + 1), s + 1, va_up fr s (wv n f p), va_up ce s (wv n f (p + wd n f p + 1)))
/-- days, and the class's end -/
def rd (p : Nat) : Nat ⊕ (Nat × Nat) :=
  if nx n f p ≠ 47 then .inl p else if ¬ wok n f (p + 1) then .inl (p + 1 + wd n f (p + 1)) else if nx n f (p + 1 + wd n f (p + 1)) ≠ 59 then .inl (p + 1 + wd n f (p + 1)) else .inr (p + 1 + wd n f (p + 1) + 1, wv n f (p + 1))
end RD
/-- a step is good behind those before it -/
abbrev sok (fr ce : Nat → Nat) (i : Nat) : Prop := i < 4 ∧ (if i = 0 then 0 else fr (i - 1)) < fr i ∧ fr i ≤ 1000000 ∧ 1 ≤ ce i ∧ ce i ≤ 1000000
section PRows
variable {C : Nat → List Value → ax_H → ax_R → Prop} {M : ax_M} {Q : ax_R → Prop} {pc nxt tg : Nat} {lv lv' : ax_L} {st st' : List Value}
variable {L : Nat} {xs : Nat → Int32} {c : ax_St} {m : ax_Mo} {o : Nat → Int64} {P X : List (Option ax_C)} {u : Nat}
theorem ga {j : Nat} {x : Option ax_C} (hX : X[j]? = some x) : (P ++ X)[P.length + j]? = some x := by
  rw [List.getElem?_append_right (by omega)]
  rw [show P.length + j - P.length = j by omega]
  exact hX
theorem sa {j : Nat} {y : Option ax_C} : (P ++ X).set (P.length + j) y = P ++ X.set j y := by
  rw [List.set_append_right _ _ (by omega)]
  rw [show P.length + j - P.length = j by omega]
theorem w_getP {ix ci i : Nat} {fs : List Value} {v : Value} (j : Nat) (hd : M.2.2.1.lookup pc = some (.getfield ix, nxt, tg)) (hf : ax_tF.lookup (ax_key M ix) = some (ci, i)) (hc : X[j]? = some (some (.inr (ci, fs)))) (hv : fs[i]? = some v) (k : ax_wp C M Q nxt lv (v :: st) (ax_hp L xs c m o (P ++ X), u)) : ax_wp C M Q pc lv (.ref (P.length + j + 40) :: st) (ax_hp L xs c m o (P ++ X), u) :=
  w_get hd hf (hp_at (ga hc)) hv k
theorem w_putP {ix ci i : Nat} {fs : List Value} {v : Value} (j : Nat) (hd : M.2.2.1.lookup pc = some (.putfield ix, nxt, tg)) (hf : ax_tF.lookup (ax_key M ix) = some (ci, i)) (hc : X[j]? = some (some (.inr (ci, fs)))) (hl : i < fs.length) (hw : ax_fin ci i = false ∨ (M.2.2.2.2 = true ∧ M.1 = ci)) (hn : narrow (ax_ty ci i) v = v) (ht : fits (ax_ty ci i) v = true)
    (k : ax_wp C M Q nxt lv st (ax_hp L xs c m o (P ++ X.set j (some (.inr (ci, fs.set i v)))), u)) : ax_wp C M Q pc lv (v :: .ref (P.length + j + 40) :: st) (ax_hp L xs c m o (P ++ X), u) := by
  rw [← sa] at k
  exact w_put hd hf (hp_at (ga hc)) hl hw hn ht k
theorem w_iaP {n i : Nat} {x : Int32} {f : Nat → Int32} (j : Nat) (hd : M.2.2.1.lookup pc = some (.iaload, nxt, tg)) (hc : X[j]? = some (some (.inl (0, n, .inl f)))) (hx : x = nI i) (hl : i < n) (hn : n ≤ 1000000) (k : ax_wp C M Q nxt lv (.int (f i) :: st) (ax_hp L xs c m o (P ++ X), u)) : ax_wp C M Q pc lv (.int x :: .ref (P.length + j + 40) :: st) (ax_hp L xs c m o (P ++ X), u) :=
  w_ia hd (hp_at (ga hc)) hx hl hn k
theorem w_iasP {n i : Nat} {x y : Int32} {f : Nat → Int32} (j : Nat) (hd : M.2.2.1.lookup pc = some (.iastore, nxt, tg)) (hc : X[j]? = some (some (.inl (0, n, .inl f)))) (hx : x = nI i) (hl : i < n) (hn : n ≤ 1000000) (k : ax_wp C M Q nxt lv st (ax_hp L xs c m o (P ++ X.set j (some (.inl (0, n, .inl (upd f i y))))), u)) : ax_wp C M Q pc lv (.int y :: .int x :: .ref (P.length + j + 40) :: st) (ax_hp L xs c m o (P ++ X), u) := by
  rw [← sa] at k
  exact w_ias hd (hp_at (ga hc)) hx hl hn k
theorem w_newaP {t : ArrayType} {n : Int32} {q nn : Nat} (kk : Nat) (hd : M.2.2.1.lookup pc = some (.newarray t, nxt, tg)) (ht : ax_ak t = some q) (hn : ¬ n < 0) (hm : n.toNatClampNeg = nn) (hle : nn ≤ 1000000) (hk : X.length = kk) (k : ax_wp C M Q nxt lv (.ref (P.length + kk + 40) :: st) (ax_hp L xs c m o (P ++ (X ++ [some (.inl (q, nn, ax_blank q))])), u + nn)) : ax_wp C M Q pc lv (.int n :: st) (ax_hp L xs c m o (P ++ X), u) := by
  subst hm
  refine w_newa hd ht hn hle ?_
  have e1 : (ax_hp L xs c m o (P ++ X)).length = P.length + kk + 40 := by
    show (P ++ X).length + 40 = _
    rw [List.length_append, hk]
  have e2 : ax_hp L xs c m o (P ++ X) ++ [some (.inl (q, n.toNatClampNeg, ax_blank q))] = ax_hp L xs c m o (P ++ (X ++ [some (.inl (q, n.toNatClampNeg, ax_blank q))])) := by
    show ax_hp L xs c m o (P ++ X ++ [_]) = _
    rw [List.append_assoc]
  rw [e1, e2]
  exact k
end PRows
/-- a grade's four cells -/
def gC (b : Nat) (lim fr ce : Nat → Int32) (s : Nat) (dy can : Int32) : List (Option ax_C) :=
  [ax_ob 3 [.ref (b + 1 + 40), .ref (b + 2 + 40), .ref (b + 3 + 40), .int (nI s), .int dy, .int can], ax_aI 6 lim, ax_aI 4 fr, ax_aI 4 ce]
section GRD
variable {L : Nat} {xs : Nat → Int32} {c : ax_St} {m : ax_Mo} {o : Nat → Int64} {P : List (Option ax_C)} {u : Nat}
theorem r_Gr_init : ax_run m_Gr_init [.ref (P.length + 0 + 40)] (ax_hp L xs c m o (P ++ [ax_ob 3 (ax_dfl 3)]), u) (.inl none, (ax_hp L xs c m o (P ++ gC P.length (fun _ => 0) (fun _ => 0) (fun _ => 0) 0 0 1), u + 6 + 4 + 4)) := by
  (refine ax_run_T (ax_T_of M_Gr_init rfl (Nat.le_of_ble_eq_true rfl) ?_))
  (repeat (first | refine w_iadd1 rfl ?_ | refine w_isub1 rfl ?_ | refine w_iinc1 rfl rfl ?_ | refine w_s rfl rfl ?_ | refine w_get rfl rfl rfl rfl ?_ | refine w_nnl rfl ?_ | refine w_nnlR rfl ?_ | refine w_nul rfl ?_ | refine w_nulR rfl ?_ | refine w_ldc rfl rfl ?_ | refine w_ldc2 rfl rfl ?_ | refine w_put rfl rfl rfl (Nat.le_of_ble_eq_true rfl) (Or.inl rfl) rfl rfl ?_))
  refine w_oi rfl (by decide) (Nat.le_of_ble_eq_true rfl) ?_
  (repeat (first | refine w_iadd1 rfl ?_ | refine w_isub1 rfl ?_ | refine w_iinc1 rfl rfl ?_ | refine w_s rfl rfl ?_ | refine w_get rfl rfl rfl rfl ?_ | refine w_nnl rfl ?_ | refine w_nnlR rfl ?_ | refine w_nul rfl ?_ | refine w_nulR rfl ?_ | refine w_ldc rfl rfl ?_ | refine w_ldc2 rfl rfl ?_ | refine w_put rfl rfl rfl (Nat.le_of_ble_eq_true rfl) (Or.inl rfl) rfl rfl ?_))
  refine w_newaP 1 rfl rfl (by decide) (nn := 6) (by decide) (by decide) rfl ?_
  refine w_putP 0 rfl rfl rfl (Nat.le_of_ble_eq_true rfl) (Or.inr ⟨rfl, rfl⟩) rfl rfl ?_
  (repeat (first | refine w_iadd1 rfl ?_ | refine w_isub1 rfl ?_ | refine w_iinc1 rfl rfl ?_ | refine w_s rfl rfl ?_ | refine w_get rfl rfl rfl rfl ?_ | refine w_nnl rfl ?_ | refine w_nnlR rfl ?_ | refine w_nul rfl ?_ | refine w_nulR rfl ?_ | refine w_ldc rfl rfl ?_ | refine w_ldc2 rfl rfl ?_ | refine w_put rfl rfl rfl (Nat.le_of_ble_eq_true rfl) (Or.inl rfl) rfl rfl ?_))
  refine w_newaP 2 rfl rfl (by decide) (nn := 4) (by decide) (by decide) rfl ?_
  refine w_putP 0 rfl rfl rfl (Nat.le_of_ble_eq_true rfl) (Or.inr ⟨rfl, rfl⟩) rfl rfl ?_
  (repeat (first | refine w_iadd1 rfl ?_ | refine w_isub1 rfl ?_ | refine w_iinc1 rfl rfl ?_ | refine w_s rfl rfl ?_ | refine w_get rfl rfl rfl rfl ?_ | refine w_nnl rfl ?_ | refine w_nnlR rfl ?_ | refine w_nul rfl ?_ | refine w_nulR rfl ?_ | refine w_ldc rfl rfl ?_ | refine w_ldc2 rfl rfl ?_ | refine w_put rfl rfl rfl (Nat.le_of_ble_eq_true rfl) (Or.inl rfl) rfl rfl ?_))
  refine w_newaP 3 rfl rfl (by decide) (nn := 4) (by decide) (by decide) rfl ?_
  refine w_putP 0 rfl rfl rfl (Nat.le_of_ble_eq_true rfl) (Or.inr ⟨rfl, rfl⟩) rfl rfl ?_
  (repeat (first | refine w_iadd1 rfl ?_ | refine w_isub1 rfl ?_ | refine w_iinc1 rfl rfl ?_ | refine w_s rfl rfl ?_ | refine w_get rfl rfl rfl rfl ?_ | refine w_nnl rfl ?_ | refine w_nnlR rfl ?_ | refine w_nul rfl ?_ | refine w_nulR rfl ?_ | refine w_ldc rfl rfl ?_ | refine w_ldc2 rfl rfl ?_ | refine w_put rfl rfl rfl (Nat.le_of_ble_eq_true rfl) (Or.inl rfl) rfl rfl ?_))
  refine w_putP 0 rfl rfl rfl (Nat.le_of_ble_eq_true rfl) (Or.inl rfl) rfl rfl ?_
  refine w_vret rfl rfl ?_
  rfl
theorem r_setLimit1 {lim fr ce : Nat → Int32} {s : Nat} {dy can : Int32} (i v : Nat) (hi : i < 6) (hv : v ≤ 1000000) : ax_run m_Gr_setLimit [.ref (P.length + 0 + 40), .int (nI i), .int (nI v)] (ax_hp L xs c m o (P ++ gC P.length lim fr ce s dy can), u) (.inl none, (ax_hp L xs c m o (P ++ gC P.length (upd lim i (nI v)) fr ce s dy can), u)) := by
  (refine ax_run_T (ax_T_of M_Gr_setLimit rfl (Nat.le_of_ble_eq_true rfl) ?_))
  (repeat (first | refine w_iadd1 rfl ?_ | refine w_isub1 rfl ?_ | refine w_iinc1 rfl rfl ?_ | refine w_s rfl rfl ?_ | refine w_get rfl rfl rfl rfl ?_ | refine w_nnl rfl ?_ | refine w_nnlR rfl ?_ | refine w_nul rfl ?_ | refine w_nulR rfl ?_ | refine w_ldc rfl rfl ?_ | refine w_ldc2 rfl rfl ?_ | refine w_put rfl rfl rfl (Nat.le_of_ble_eq_true rfl) (Or.inl rfl) rfl rfl ?_))
  refine w_if1 rfl (fun h5 => absurd (c_lt0.mp h5) (by rw [q_nI' (by omega)]; omega)) (fun _ => ?_)
  (repeat (first | refine w_iadd1 rfl ?_ | refine w_isub1 rfl ?_ | refine w_iinc1 rfl rfl ?_ | refine w_s rfl rfl ?_ | refine w_get rfl rfl rfl rfl ?_ | refine w_nnl rfl ?_ | refine w_nnlR rfl ?_ | refine w_nul rfl ?_ | refine w_nulR rfl ?_ | refine w_ldc rfl rfl ?_ | refine w_ldc2 rfl rfl ?_ | refine w_put rfl rfl rfl (Nat.le_of_ble_eq_true rfl) (Or.inl rfl) rfl rfl ?_))
  refine w_if2 rfl (fun h5 => absurd ((cn_ge (a := i) (b := 6) (by omega) (by omega)).mp h5) (by omega)) (fun _ => ?_)
  (repeat (first | refine w_iadd1 rfl ?_ | refine w_isub1 rfl ?_ | refine w_iinc1 rfl rfl ?_ | refine w_s rfl rfl ?_ | refine w_get rfl rfl rfl rfl ?_ | refine w_nnl rfl ?_ | refine w_nnlR rfl ?_ | refine w_nul rfl ?_ | refine w_nulR rfl ?_ | refine w_ldc rfl rfl ?_ | refine w_ldc2 rfl rfl ?_ | refine w_put rfl rfl rfl (Nat.le_of_ble_eq_true rfl) (Or.inl rfl) rfl rfl ?_))
  refine w_if2 rfl (fun _ => ?_) (fun h5 => absurd (show nI v ≤ (1000000 : Int32) from Int32.le_iff_toInt_le.mpr (by rw [q_nI' (by omega)]; show (v : Int) ≤ 1000000; omega)) h5)
  (repeat (first | refine w_iadd1 rfl ?_ | refine w_isub1 rfl ?_ | refine w_iinc1 rfl rfl ?_ | refine w_s rfl rfl ?_ | refine w_get rfl rfl rfl rfl ?_ | refine w_nnl rfl ?_ | refine w_nnlR rfl ?_ | refine w_nul rfl ?_ | refine w_nulR rfl ?_ | refine w_ldc rfl rfl ?_ | refine w_ldc2 rfl rfl ?_ | refine w_put rfl rfl rfl (Nat.le_of_ble_eq_true rfl) (Or.inl rfl) rfl rfl ?_))
  refine w_getP 0 rfl rfl rfl rfl ?_
  (repeat (first | refine w_iadd1 rfl ?_ | refine w_isub1 rfl ?_ | refine w_iinc1 rfl rfl ?_ | refine w_s rfl rfl ?_ | refine w_get rfl rfl rfl rfl ?_ | refine w_nnl rfl ?_ | refine w_nnlR rfl ?_ | refine w_nul rfl ?_ | refine w_nulR rfl ?_ | refine w_ldc rfl rfl ?_ | refine w_ldc2 rfl rfl ?_ | refine w_put rfl rfl rfl (Nat.le_of_ble_eq_true rfl) (Or.inl rfl) rfl rfl ?_))
  refine w_iasP 1 rfl rfl rfl hi (by decide) ?_
  refine w_vret rfl rfl ?_
  rfl
theorem r_setLimit0 {lim fr ce : Nat → Int32} {s : Nat} {dy can : Int32} (i v : Nat) (hi : i < 6) (hv : 1000000 < v) (hv2 : v < 10000000) : ax_run m_Gr_setLimit [.ref (P.length + 0 + 40), .int (nI i), .int (nI v)] (ax_hp L xs c m o (P ++ gC P.length lim fr ce s dy can), u) (.inl none, (ax_hp L xs c m o (P ++ gC P.length lim fr ce s dy 0), u)) := by
  (refine ax_run_T (ax_T_of M_Gr_setLimit rfl (Nat.le_of_ble_eq_true rfl) ?_))
  (repeat (first | refine w_iadd1 rfl ?_ | refine w_isub1 rfl ?_ | refine w_iinc1 rfl rfl ?_ | refine w_s rfl rfl ?_ | refine w_get rfl rfl rfl rfl ?_ | refine w_nnl rfl ?_ | refine w_nnlR rfl ?_ | refine w_nul rfl ?_ | refine w_nulR rfl ?_ | refine w_ldc rfl rfl ?_ | refine w_ldc2 rfl rfl ?_ | refine w_put rfl rfl rfl (Nat.le_of_ble_eq_true rfl) (Or.inl rfl) rfl rfl ?_))
  refine w_if1 rfl (fun h5 => absurd (c_lt0.mp h5) (by rw [q_nI' (by omega)]; omega)) (fun _ => ?_)
  (repeat (first | refine w_iadd1 rfl ?_ | refine w_isub1 rfl ?_ | refine w_iinc1 rfl rfl ?_ | refine w_s rfl rfl ?_ | refine w_get rfl rfl rfl rfl ?_ | refine w_nnl rfl ?_ | refine w_nnlR rfl ?_ | refine w_nul rfl ?_ | refine w_nulR rfl ?_ | refine w_ldc rfl rfl ?_ | refine w_ldc2 rfl rfl ?_ | refine w_put rfl rfl rfl (Nat.le_of_ble_eq_true rfl) (Or.inl rfl) rfl rfl ?_))
  refine w_if2 rfl (fun h5 => absurd ((cn_ge (a := i) (b := 6) (by omega) (by omega)).mp h5) (by omega)) (fun _ => ?_)
  (repeat (first | refine w_iadd1 rfl ?_ | refine w_isub1 rfl ?_ | refine w_iinc1 rfl rfl ?_ | refine w_s rfl rfl ?_ | refine w_get rfl rfl rfl rfl ?_ | refine w_nnl rfl ?_ | refine w_nnlR rfl ?_ | refine w_nul rfl ?_ | refine w_nulR rfl ?_ | refine w_ldc rfl rfl ?_ | refine w_ldc2 rfl rfl ?_ | refine w_put rfl rfl rfl (Nat.le_of_ble_eq_true rfl) (Or.inl rfl) rfl rfl ?_))
  refine w_if2 rfl (fun h5 => ?_) (fun _ => ?_)
  · have h6 := Int32.le_iff_toInt_le.mp (show nI v ≤ (1000000 : Int32) from h5)
    rw [q_nI' (by omega)] at h6
    have h7 : (v : Int) ≤ 1000000 := h6
    omega
  (repeat (first | refine w_iadd1 rfl ?_ | refine w_isub1 rfl ?_ | refine w_iinc1 rfl rfl ?_ | refine w_s rfl rfl ?_ | refine w_get rfl rfl rfl rfl ?_ | refine w_nnl rfl ?_ | refine w_nnlR rfl ?_ | refine w_nul rfl ?_ | refine w_nulR rfl ?_ | refine w_ldc rfl rfl ?_ | refine w_ldc2 rfl rfl ?_ | refine w_put rfl rfl rfl (Nat.le_of_ble_eq_true rfl) (Or.inl rfl) rfl rfl ?_))
  refine w_putP 0 rfl rfl rfl (Nat.le_of_ble_eq_true rfl) (Or.inl rfl) rfl rfl ?_
  refine w_vret rfl rfl ?_
  rfl
theorem r_setDays1 {lim fr ce : Nat → Int32} {s : Nat} {dy can : Int32} (v : Nat) (hv : v ≤ 1000) : ax_run m_Gr_setDays [.ref (P.length + 0 + 40), .int (nI v)] (ax_hp L xs c m o (P ++ gC P.length lim fr ce s dy can), u) (.inl none, (ax_hp L xs c m o (P ++ gC P.length lim fr ce s (nI v) can), u)) := by
  (refine ax_run_T (ax_T_of M_Gr_setDays rfl (Nat.le_of_ble_eq_true rfl) ?_))
  (repeat (first | refine w_iadd1 rfl ?_ | refine w_isub1 rfl ?_ | refine w_iinc1 rfl rfl ?_ | refine w_s rfl rfl ?_ | refine w_get rfl rfl rfl rfl ?_ | refine w_nnl rfl ?_ | refine w_nnlR rfl ?_ | refine w_nul rfl ?_ | refine w_nulR rfl ?_ | refine w_ldc rfl rfl ?_ | refine w_ldc2 rfl rfl ?_ | refine w_put rfl rfl rfl (Nat.le_of_ble_eq_true rfl) (Or.inl rfl) rfl rfl ?_))
  refine w_if2 rfl (fun _ => ?_) (fun h5 => absurd (show nI v ≤ (Int16.ofInt 1000).toInt32 from Int32.le_iff_toInt_le.mpr (by rw [q_nI' (by omega), q_b16]; omega)) h5)
  (repeat (first | refine w_iadd1 rfl ?_ | refine w_isub1 rfl ?_ | refine w_iinc1 rfl rfl ?_ | refine w_s rfl rfl ?_ | refine w_get rfl rfl rfl rfl ?_ | refine w_nnl rfl ?_ | refine w_nnlR rfl ?_ | refine w_nul rfl ?_ | refine w_nulR rfl ?_ | refine w_ldc rfl rfl ?_ | refine w_ldc2 rfl rfl ?_ | refine w_put rfl rfl rfl (Nat.le_of_ble_eq_true rfl) (Or.inl rfl) rfl rfl ?_))
  refine w_putP 0 rfl rfl rfl (Nat.le_of_ble_eq_true rfl) (Or.inl rfl) rfl rfl ?_
  refine w_vret rfl rfl ?_
  rfl
theorem r_setDays0 {lim fr ce : Nat → Int32} {s : Nat} {dy can : Int32} (v : Nat) (hv : 1000 < v) (hv2 : v < 10000000) : ax_run m_Gr_setDays [.ref (P.length + 0 + 40), .int (nI v)] (ax_hp L xs c m o (P ++ gC P.length lim fr ce s dy can), u) (.inl none, (ax_hp L xs c m o (P ++ gC P.length lim fr ce s dy 0), u)) := by
  (refine ax_run_T (ax_T_of M_Gr_setDays rfl (Nat.le_of_ble_eq_true rfl) ?_))
  (repeat (first | refine w_iadd1 rfl ?_ | refine w_isub1 rfl ?_ | refine w_iinc1 rfl rfl ?_ | refine w_s rfl rfl ?_ | refine w_get rfl rfl rfl rfl ?_ | refine w_nnl rfl ?_ | refine w_nnlR rfl ?_ | refine w_nul rfl ?_ | refine w_nulR rfl ?_ | refine w_ldc rfl rfl ?_ | refine w_ldc2 rfl rfl ?_ | refine w_put rfl rfl rfl (Nat.le_of_ble_eq_true rfl) (Or.inl rfl) rfl rfl ?_))
  refine w_if2 rfl (fun h5 => ?_) (fun _ => ?_)
  · have h6 := Int32.le_iff_toInt_le.mp (show nI v ≤ (Int16.ofInt 1000).toInt32 from h5)
    rw [q_nI' (by omega), q_b16] at h6
    omega
  (repeat (first | refine w_iadd1 rfl ?_ | refine w_isub1 rfl ?_ | refine w_iinc1 rfl rfl ?_ | refine w_s rfl rfl ?_ | refine w_get rfl rfl rfl rfl ?_ | refine w_nnl rfl ?_ | refine w_nnlR rfl ?_ | refine w_nul rfl ?_ | refine w_nulR rfl ?_ | refine w_ldc rfl rfl ?_ | refine w_ldc2 rfl rfl ?_ | refine w_put rfl rfl rfl (Nat.le_of_ble_eq_true rfl) (Or.inl rfl) rfl rfl ?_))
  refine w_putP 0 rfl rfl rfl (Nat.le_of_ble_eq_true rfl) (Or.inl rfl) rfl rfl ?_
  refine w_vret rfl rfl ?_
  rfl
/-- a step: ah is what the last step has -/
theorem r_addStep {lim fr ce : Nat → Int32} {s : Nat} {dy can : Int32} (a v ah : Nat) (hs : s ≤ 4) (ha : a < 10000000) (hv : v < 10000000) (hah : ah < 10000000) (h0 : s = 0 → ah = 0) (h1 : s ≠ 0 → fr (s - 1) = nI ah) : ax_run m_Gr_addStep [.ref (P.length + 0 + 40), .int (nI a), .int (nI v)] (ax_hp L xs c m o (P ++ gC P.length lim fr ce s dy can), u)
    (if s < 4 ∧ ah < a ∧ a ≤ 1000000 ∧ 1 ≤ v ∧ v ≤ 1000000 then (.inl none, (ax_hp L xs c m o (P ++ gC P.length lim (upd fr s (nI a)) (upd ce s (nI v)) (s + 1) dy can), u)) else (.inl none, (ax_hp L xs c m o (P ++ gC P.length lim fr ce s dy 0), u))) := by
  have bad : ¬ (s < 4 ∧ ah < a ∧ a ≤ 1000000 ∧ 1 ≤ v ∧ v ≤ 1000000) → ∀ (lv : ax_L), ax_wp ax_run M_Gr_addStep (fun r' => r' = (if s < 4 ∧ ah < a ∧ a ≤ 1000000 ∧ 1 ≤ v ∧ v ≤ 1000000 then (.inl none, (ax_hp L xs c m o (P ++ gC P.length lim (upd fr s (nI a)) (upd ce s (nI v)) (s + 1) dy can), u)) else (.inl none, (ax_hp L xs c m o (P ++ gC P.length lim fr ce s dy 0), u)))) 53 [(0, .ref (P.length + 0 + 40))] [] (ax_hp L xs c m o (P ++ gC P.length lim fr ce s dy can), u) := by
    intro hb _
    (repeat (first | refine w_iadd1 rfl ?_ | refine w_isub1 rfl ?_ | refine w_iinc1 rfl rfl ?_ | refine w_s rfl rfl ?_ | refine w_get rfl rfl rfl rfl ?_ | refine w_nnl rfl ?_ | refine w_nnlR rfl ?_ | refine w_nul rfl ?_ | refine w_nulR rfl ?_ | refine w_ldc rfl rfl ?_ | refine w_ldc2 rfl rfl ?_ | refine w_put rfl rfl rfl (Nat.le_of_ble_eq_true rfl) (Or.inl rfl) rfl rfl ?_))
    refine w_putP 0 rfl rfl rfl (Nat.le_of_ble_eq_true rfl) (Or.inl rfl) rfl rfl ?_
    refine w_vret rfl rfl ?_
    rw [if_neg hb]
    rfl
  have main : ax_wp ax_run M_Gr_addStep (fun r' => r' = (if s < 4 ∧ ah < a ∧ a ≤ 1000000 ∧ 1 ≤ v ∧ v ≤ 1000000 then (.inl none, (ax_hp L xs c m o (P ++ gC P.length lim (upd fr s (nI a)) (upd ce s (nI v)) (s + 1) dy can), u)) else (.inl none, (ax_hp L xs c m o (P ++ gC P.length lim fr ce s dy 0), u)))) 23 [(0, .ref (P.length + 0 + 40)), (1, .int (nI a)), (2, .int (nI v)), (3, .int (nI ah))] [] (ax_hp L xs c m o (P ++ gC P.length lim fr ce s dy can), u) := by
    (repeat (first | refine w_iadd1 rfl ?_ | refine w_isub1 rfl ?_ | refine w_iinc1 rfl rfl ?_ | refine w_s rfl rfl ?_ | refine w_get rfl rfl rfl rfl ?_ | refine w_nnl rfl ?_ | refine w_nnlR rfl ?_ | refine w_nul rfl ?_ | refine w_nulR rfl ?_ | refine w_ldc rfl rfl ?_ | refine w_ldc2 rfl rfl ?_ | refine w_put rfl rfl rfl (Nat.le_of_ble_eq_true rfl) (Or.inl rfl) rfl rfl ?_))
    refine w_getP 0 rfl rfl rfl rfl ?_
    (repeat (first | refine w_iadd1 rfl ?_ | refine w_isub1 rfl ?_ | refine w_iinc1 rfl rfl ?_ | refine w_s rfl rfl ?_ | refine w_get rfl rfl rfl rfl ?_ | refine w_nnl rfl ?_ | refine w_nnlR rfl ?_ | refine w_nul rfl ?_ | refine w_nulR rfl ?_ | refine w_ldc rfl rfl ?_ | refine w_ldc2 rfl rfl ?_ | refine w_put rfl rfl rfl (Nat.le_of_ble_eq_true rfl) (Or.inl rfl) rfl rfl ?_))
    refine w_if2 rfl (fun h5 => ?_) (fun h5 => ?_)
    · have h6 := (cn_ge (a := s) (b := 4) (by omega) (by omega)).mp h5
      exact w_lv (bad (fun z => by omega) []) rfl ⟨rfl, trivial⟩
    have g1 : ¬ 4 ≤ s := fun z => h5 ((cn_ge (a := s) (b := 4) (by omega) (by omega)).mpr z)
    (repeat (first | refine w_iadd1 rfl ?_ | refine w_isub1 rfl ?_ | refine w_iinc1 rfl rfl ?_ | refine w_s rfl rfl ?_ | refine w_get rfl rfl rfl rfl ?_ | refine w_nnl rfl ?_ | refine w_nnlR rfl ?_ | refine w_nul rfl ?_ | refine w_nulR rfl ?_ | refine w_ldc rfl rfl ?_ | refine w_ldc2 rfl rfl ?_ | refine w_put rfl rfl rfl (Nat.le_of_ble_eq_true rfl) (Or.inl rfl) rfl rfl ?_))
    refine w_if2 rfl (fun h5 => ?_) (fun h5 => ?_)
    · have h6 := Int32.le_iff_toInt_le.mp (show nI a ≤ nI ah from h5)
      rw [q_nI' (by omega), q_nI' (by omega)] at h6
      exact w_lv (bad (fun z => by omega) []) rfl ⟨rfl, trivial⟩
    have g2 : ¬ (nI a).toInt ≤ (nI ah).toInt := fun z => h5 (Int32.le_iff_toInt_le.mpr z)
    rw [q_nI' (by omega), q_nI' (by omega)] at g2
    (repeat (first | refine w_iadd1 rfl ?_ | refine w_isub1 rfl ?_ | refine w_iinc1 rfl rfl ?_ | refine w_s rfl rfl ?_ | refine w_get rfl rfl rfl rfl ?_ | refine w_nnl rfl ?_ | refine w_nnlR rfl ?_ | refine w_nul rfl ?_ | refine w_nulR rfl ?_ | refine w_ldc rfl rfl ?_ | refine w_ldc2 rfl rfl ?_ | refine w_put rfl rfl rfl (Nat.le_of_ble_eq_true rfl) (Or.inl rfl) rfl rfl ?_))
    refine w_if2 rfl (fun h5 => ?_) (fun h5 => ?_)
    · have h6 := Int32.lt_iff_toInt_lt.mp (show (1000000 : Int32) < nI a from h5)
      rw [q_nI' (by omega)] at h6
      have h7 : (1000000 : Int) < a := h6
      exact w_lv (bad (fun z => by omega) []) rfl ⟨rfl, trivial⟩
    have g3 : ¬ ((1000000 : Int32)).toInt < (nI a).toInt := fun z => h5 (Int32.lt_iff_toInt_lt.mpr z)
    rw [q_nI' (by omega)] at g3
    have g3' : ¬ (1000000 : Int) < a := g3
    (repeat (first | refine w_iadd1 rfl ?_ | refine w_isub1 rfl ?_ | refine w_iinc1 rfl rfl ?_ | refine w_s rfl rfl ?_ | refine w_get rfl rfl rfl rfl ?_ | refine w_nnl rfl ?_ | refine w_nnlR rfl ?_ | refine w_nul rfl ?_ | refine w_nulR rfl ?_ | refine w_ldc rfl rfl ?_ | refine w_ldc2 rfl rfl ?_ | refine w_put rfl rfl rfl (Nat.le_of_ble_eq_true rfl) (Or.inl rfl) rfl rfl ?_))
    refine w_if2 rfl (fun h5 => ?_) (fun h5 => ?_)
    · have h6 := (cn_lt (a := v) (b := 1) (by omega) (by omega)).mp h5
      exact w_lv (bad (fun z => by omega) []) rfl ⟨rfl, trivial⟩
    have g4 : ¬ v < 1 := fun z => h5 ((cn_lt (a := v) (b := 1) (by omega) (by omega)).mpr z)
    (repeat (first | refine w_iadd1 rfl ?_ | refine w_isub1 rfl ?_ | refine w_iinc1 rfl rfl ?_ | refine w_s rfl rfl ?_ | refine w_get rfl rfl rfl rfl ?_ | refine w_nnl rfl ?_ | refine w_nnlR rfl ?_ | refine w_nul rfl ?_ | refine w_nulR rfl ?_ | refine w_ldc rfl rfl ?_ | refine w_ldc2 rfl rfl ?_ | refine w_put rfl rfl rfl (Nat.le_of_ble_eq_true rfl) (Or.inl rfl) rfl rfl ?_))
    refine w_if2 rfl (fun h5 => ?_) (fun h5 => ?_)
    · have h6 := Int32.le_iff_toInt_le.mp (show nI v ≤ (1000000 : Int32) from h5)
      rw [q_nI' (by omega)] at h6
      have h7 : (v : Int) ≤ 1000000 := h6
      rw [if_pos (by omega)]
      (repeat (first | refine w_iadd1 rfl ?_ | refine w_isub1 rfl ?_ | refine w_iinc1 rfl rfl ?_ | refine w_s rfl rfl ?_ | refine w_get rfl rfl rfl rfl ?_ | refine w_nnl rfl ?_ | refine w_nnlR rfl ?_ | refine w_nul rfl ?_ | refine w_nulR rfl ?_ | refine w_ldc rfl rfl ?_ | refine w_ldc2 rfl rfl ?_ | refine w_put rfl rfl rfl (Nat.le_of_ble_eq_true rfl) (Or.inl rfl) rfl rfl ?_))
      refine w_getP 0 rfl rfl rfl rfl ?_
      (repeat (first | refine w_iadd1 rfl ?_ | refine w_isub1 rfl ?_ | refine w_iinc1 rfl rfl ?_ | refine w_s rfl rfl ?_ | refine w_get rfl rfl rfl rfl ?_ | refine w_nnl rfl ?_ | refine w_nnlR rfl ?_ | refine w_nul rfl ?_ | refine w_nulR rfl ?_ | refine w_ldc rfl rfl ?_ | refine w_ldc2 rfl rfl ?_ | refine w_put rfl rfl rfl (Nat.le_of_ble_eq_true rfl) (Or.inl rfl) rfl rfl ?_))
      refine w_getP 0 rfl rfl rfl rfl ?_
      (repeat (first | refine w_iadd1 rfl ?_ | refine w_isub1 rfl ?_ | refine w_iinc1 rfl rfl ?_ | refine w_s rfl rfl ?_ | refine w_get rfl rfl rfl rfl ?_ | refine w_nnl rfl ?_ | refine w_nnlR rfl ?_ | refine w_nul rfl ?_ | refine w_nulR rfl ?_ | refine w_ldc rfl rfl ?_ | refine w_ldc2 rfl rfl ?_ | refine w_put rfl rfl rfl (Nat.le_of_ble_eq_true rfl) (Or.inl rfl) rfl rfl ?_))
      refine w_iasP 2 rfl rfl rfl (by omega) (by decide) ?_
      (repeat (first | refine w_iadd1 rfl ?_ | refine w_isub1 rfl ?_ | refine w_iinc1 rfl rfl ?_ | refine w_s rfl rfl ?_ | refine w_get rfl rfl rfl rfl ?_ | refine w_nnl rfl ?_ | refine w_nnlR rfl ?_ | refine w_nul rfl ?_ | refine w_nulR rfl ?_ | refine w_ldc rfl rfl ?_ | refine w_ldc2 rfl rfl ?_ | refine w_put rfl rfl rfl (Nat.le_of_ble_eq_true rfl) (Or.inl rfl) rfl rfl ?_))
      refine w_getP 0 rfl rfl rfl rfl ?_
      (repeat (first | refine w_iadd1 rfl ?_ | refine w_isub1 rfl ?_ | refine w_iinc1 rfl rfl ?_ | refine w_s rfl rfl ?_ | refine w_get rfl rfl rfl rfl ?_ | refine w_nnl rfl ?_ | refine w_nnlR rfl ?_ | refine w_nul rfl ?_ | refine w_nulR rfl ?_ | refine w_ldc rfl rfl ?_ | refine w_ldc2 rfl rfl ?_ | refine w_put rfl rfl rfl (Nat.le_of_ble_eq_true rfl) (Or.inl rfl) rfl rfl ?_))
      refine w_getP 0 rfl rfl rfl rfl ?_
      (repeat (first | refine w_iadd1 rfl ?_ | refine w_isub1 rfl ?_ | refine w_iinc1 rfl rfl ?_ | refine w_s rfl rfl ?_ | refine w_get rfl rfl rfl rfl ?_ | refine w_nnl rfl ?_ | refine w_nnlR rfl ?_ | refine w_nul rfl ?_ | refine w_nulR rfl ?_ | refine w_ldc rfl rfl ?_ | refine w_ldc2 rfl rfl ?_ | refine w_put rfl rfl rfl (Nat.le_of_ble_eq_true rfl) (Or.inl rfl) rfl rfl ?_))
      refine w_iasP 3 rfl rfl rfl (by omega) (by decide) ?_
      (repeat (first | refine w_iadd1 rfl ?_ | refine w_isub1 rfl ?_ | refine w_iinc1 rfl rfl ?_ | refine w_s rfl rfl ?_ | refine w_get rfl rfl rfl rfl ?_ | refine w_nnl rfl ?_ | refine w_nnlR rfl ?_ | refine w_nul rfl ?_ | refine w_nulR rfl ?_ | refine w_ldc rfl rfl ?_ | refine w_ldc2 rfl rfl ?_ | refine w_put rfl rfl rfl (Nat.le_of_ble_eq_true rfl) (Or.inl rfl) rfl rfl ?_))
      refine w_getP 0 rfl rfl rfl rfl ?_
      (repeat (first | refine w_iadd1 rfl ?_ | refine w_isub1 rfl ?_ | refine w_iinc1 rfl rfl ?_ | refine w_s rfl rfl ?_ | refine w_get rfl rfl rfl rfl ?_ | refine w_nnl rfl ?_ | refine w_nnlR rfl ?_ | refine w_nul rfl ?_ | refine w_nulR rfl ?_ | refine w_ldc rfl rfl ?_ | refine w_ldc2 rfl rfl ?_ | refine w_put rfl rfl rfl (Nat.le_of_ble_eq_true rfl) (Or.inl rfl) rfl rfl ?_))
      refine w_putP 0 rfl rfl rfl (Nat.le_of_ble_eq_true rfl) (Or.inl rfl) rfl rfl ?_
      refine w_vret rfl rfl ?_
      rfl
    · have g5 : ¬ (nI v).toInt ≤ ((1000000 : Int32)).toInt := fun z => h5 (Int32.le_iff_toInt_le.mpr z)
      rw [q_nI' (by omega)] at g5
      have g5' : ¬ (v : Int) ≤ 1000000 := g5
      exact w_lv (bad (fun z => by omega) []) rfl ⟨rfl, trivial⟩
  (refine ax_run_T (ax_T_of M_Gr_addStep rfl (Nat.le_of_ble_eq_true rfl) ?_))
  (repeat (first | refine w_iadd1 rfl ?_ | refine w_isub1 rfl ?_ | refine w_iinc1 rfl rfl ?_ | refine w_s rfl rfl ?_ | refine w_get rfl rfl rfl rfl ?_ | refine w_nnl rfl ?_ | refine w_nnlR rfl ?_ | refine w_nul rfl ?_ | refine w_nulR rfl ?_ | refine w_ldc rfl rfl ?_ | refine w_ldc2 rfl rfl ?_ | refine w_put rfl rfl rfl (Nat.le_of_ble_eq_true rfl) (Or.inl rfl) rfl rfl ?_))
  refine w_getP 0 rfl rfl rfl rfl ?_
  by_cases hz : s = 0
  · have hah0 := h0 hz
    subst hah0
    refine w_if1 rfl (fun h5 => absurd (show nI s = 0 by rw [hz]; rfl) h5) (fun _ => ?_)
    (repeat ((fail_if_success (show ax_wp _ _ _ 23 _ _ _)); (first | refine w_iadd1 rfl ?_ | refine w_isub1 rfl ?_ | refine w_iinc1 rfl rfl ?_ | refine w_s rfl rfl ?_ | refine w_get rfl rfl rfl rfl ?_ | refine w_nnl rfl ?_ | refine w_nnlR rfl ?_ | refine w_nul rfl ?_ | refine w_nulR rfl ?_ | refine w_ldc rfl rfl ?_ | refine w_ldc2 rfl rfl ?_ | refine w_put rfl rfl rfl (Nat.le_of_ble_eq_true rfl) (Or.inl rfl) rfl rfl ?_)))
    exact w_lv main rfl ⟨rfl, rfl, rfl, rfl, trivial⟩
  · have hfr := h1 hz
    refine w_if1 rfl (fun _ => ?_) (fun h5 => ?_)
    · (repeat (first | refine w_iadd1 rfl ?_ | refine w_isub1 rfl ?_ | refine w_iinc1 rfl rfl ?_ | refine w_s rfl rfl ?_ | refine w_get rfl rfl rfl rfl ?_ | refine w_nnl rfl ?_ | refine w_nnlR rfl ?_ | refine w_nul rfl ?_ | refine w_nulR rfl ?_ | refine w_ldc rfl rfl ?_ | refine w_ldc2 rfl rfl ?_ | refine w_put rfl rfl rfl (Nat.le_of_ble_eq_true rfl) (Or.inl rfl) rfl rfl ?_))
      refine w_getP 0 rfl rfl rfl rfl ?_
      (repeat (first | refine w_iadd1 rfl ?_ | refine w_isub1 rfl ?_ | refine w_iinc1 rfl rfl ?_ | refine w_s rfl rfl ?_ | refine w_get rfl rfl rfl rfl ?_ | refine w_nnl rfl ?_ | refine w_nnlR rfl ?_ | refine w_nul rfl ?_ | refine w_nulR rfl ?_ | refine w_ldc rfl rfl ?_ | refine w_ldc2 rfl rfl ?_ | refine w_put rfl rfl rfl (Nat.le_of_ble_eq_true rfl) (Or.inl rfl) rfl rfl ?_))
      refine w_getP 0 rfl rfl rfl rfl ?_
      (repeat (first | refine w_iadd1 rfl ?_ | refine w_isub1 rfl ?_ | refine w_iinc1 rfl rfl ?_ | refine w_s rfl rfl ?_ | refine w_get rfl rfl rfl rfl ?_ | refine w_nnl rfl ?_ | refine w_nnlR rfl ?_ | refine w_nul rfl ?_ | refine w_nulR rfl ?_ | refine w_ldc rfl rfl ?_ | refine w_ldc2 rfl rfl ?_ | refine w_put rfl rfl rfl (Nat.le_of_ble_eq_true rfl) (Or.inl rfl) rfl rfl ?_))
      refine w_iaP (i := s - 1) 2 rfl rfl ?_ (by omega) (by decide) ?_
      · have : s = (s - 1) + 1 := by omega
        rw [this, nI_succ]
        show nI (s - 1) + 1 - 1 = _
        rw [Int32.add_sub_cancel]
        rfl
      rw [hfr]
      (repeat ((fail_if_success (show ax_wp _ _ _ 23 _ _ _)); (first | refine w_iadd1 rfl ?_ | refine w_isub1 rfl ?_ | refine w_iinc1 rfl rfl ?_ | refine w_s rfl rfl ?_ | refine w_get rfl rfl rfl rfl ?_ | refine w_nnl rfl ?_ | refine w_nnlR rfl ?_ | refine w_nul rfl ?_ | refine w_nulR rfl ?_ | refine w_ldc rfl rfl ?_ | refine w_ldc2 rfl rfl ?_ | refine w_put rfl rfl rfl (Nat.le_of_ble_eq_true rfl) (Or.inl rfl) rfl rfl ?_)))
      exact w_lv main rfl ⟨rfl, rfl, rfl, rfl, trivial⟩
    · have h6 : nI s = 0 := Decidable.not_not.mp h5
      have := congrArg Int32.toInt h6
      rw [q_nI' (by omega)] at this
      have h7 : (s : Int) = 0 := this
      omega
end GRD
end
section
section RLS
variable {L : Nat} {xs : Nat → Int32} {c : ax_St} {m : ax_Mo} {o : Nat → Int64} {P : List (Option ax_C)} {u : Nat}
abbrev lok (l : Nat → Nat) (i : Nat) : Prop := ∀ j, j < i → l j ≤ 1000000
abbrev LimOk (l : Nat → Nat) (lim : Nat → Int32) (i : Nat) (can : Int32) : Prop := (can = bI (lok l i)) ∧ (lok l i → ∀ j, j < i → lim j = nI (l j))
theorem LimOk.can {l : Nat → Nat} {lim : Nat → Int32} {i : Nat} {can : Int32} (h_ : LimOk l lim i can) : can = bI (lok l i) := h_.1
theorem LimOk.eq {l : Nat → Nat} {lim : Nat → Int32} {i : Nat} {can : Int32} (h_ : LimOk l lim i can) : lok l i → ∀ j, j < i → lim j = nI (l j) := h_.2
/-- how the reading of limits ends -/
def PostL (n : Nat) (f : Nat → Int32) (q : Nat ⊕ (Nat × (Nat → Nat))) (b : Int32) (p : Nat) (lim : Nat → Int32) (can : Int32) : Prop := match q with
  | .inl e => p = e ∧ (b = 0 ∨ (b = 1 ∧ dg n f e))
  | .inr (e, l) => p = e ∧ b = 1 ∧ LimOk l lim 6 can
def QL (L : Nat) (xs : Nat → Int32) (c : ax_St) (m : ax_Mo) (o : Nat → Int64) (P : List (Option ax_C)) (u : Nat) (fr ce : Nat → Int32) (s : Nat) (dy : Int32) (q : Nat ⊕ (Nat × (Nat → Nat))) (r : ax_R) : Prop :=
  ∃ (b : Int32) (p : Nat) (lim : Nat → Int32) (can : Int32), r = (.inl (some (.int b)), (ax_hp L xs (ax_St.u_pl c p) m o (P ++ gC P.length lim fr ce s dy can), u)) ∧ PostL c.tl c.ch q b p lim can
theorem dg_ne {n : Nat} {f : Nat → Int32} {p : Nat} {x : Int32} (h : dg n f p) (hx : ¬ (48 ≤ x.toInt ∧ x.toInt ≤ 57)) : ¬ nx n f p = x := by
  intro z
  apply hx
  rw [← z]
  exact h
theorem r_readLimits {fr ce : Nat → Int32} {s : Nat} {dy : Int32} (hn : c.tl ≤ 400) (p : Nat) (hp : p ≤ c.tl) :
    ax_T m_Tx_readLimits [.ref 2, .ref (P.length + 0 + 40)] (ax_hp L xs (ax_St.u_pl c p) m o (P ++ gC P.length (fun _ => 0) fr ce s dy 1), u) (QL L xs c m o P u fr ce s dy (rl c.tl c.ch 6 0 p (fun _ => 0))) := by
  have ov : ∀ (i e : Nat) (lim : Nat → Int32) (can : Int32), 1 ≤ i → i ≤ 6 → e ≤ c.tl → dg c.tl c.ch e → ax_wp ax_run M_Tx_readLimits (QL L xs c m o P u fr ce s dy (.inl e)) 2 [(0, .ref 2), (1, .ref (P.length + 0 + 40)), (2, .int (nI i))] [] (ax_hp L xs (ax_St.u_pl c e) m o (P ++ gC P.length lim fr ce s dy can), u) := by
    intro i e lim can h1 h2 h3 h4
    (repeat (first | refine w_iadd1 rfl ?_ | refine w_isub1 rfl ?_ | refine w_iinc1 rfl rfl ?_ | refine w_s rfl rfl ?_ | refine w_get rfl rfl rfl rfl ?_ | refine w_nnl rfl ?_ | refine w_nnlR rfl ?_ | refine w_nul rfl ?_ | refine w_nulR rfl ?_ | refine w_ldc rfl rfl ?_ | refine w_ldc2 rfl rfl ?_ | refine w_put rfl rfl rfl (Nat.le_of_ble_eq_true rfl) (Or.inl rfl) rfl rfl ?_))
    by_cases h6 : i = 6
    · subst h6
      refine w_if2 rfl (fun _ => ?_) (fun h5 => absurd ((cn_ge (a := 6) (b := 6) (by omega) (by omega)).mpr (Nat.le_refl _)) h5)
      (repeat (first | refine w_iadd1 rfl ?_ | refine w_isub1 rfl ?_ | refine w_iinc1 rfl rfl ?_ | refine w_s rfl rfl ?_ | refine w_get rfl rfl rfl rfl ?_ | refine w_nnl rfl ?_ | refine w_nnlR rfl ?_ | refine w_nul rfl ?_ | refine w_nulR rfl ?_ | refine w_ldc rfl rfl ?_ | refine w_ldc2 rfl rfl ?_ | refine w_put rfl rfl rfl (Nat.le_of_ble_eq_true rfl) (Or.inl rfl) rfl rfl ?_))
      (refine w_iret rfl rfl rfl ?_)
      exact ⟨1, e, lim, can, rfl, rfl, Or.inr ⟨rfl, h4⟩⟩
    · refine w_if2 rfl (fun h5 => absurd ((cn_ge (a := i) (b := 6) (by omega) (by omega)).mp h5) (by omega)) (fun _ => ?_)
      (repeat (first | refine w_iadd1 rfl ?_ | refine w_isub1 rfl ?_ | refine w_iinc1 rfl rfl ?_ | refine w_s rfl rfl ?_ | refine w_get rfl rfl rfl rfl ?_ | refine w_nnl rfl ?_ | refine w_nnlR rfl ?_ | refine w_nul rfl ?_ | refine w_nulR rfl ?_ | refine w_ldc rfl rfl ?_ | refine w_ldc2 rfl rfl ?_ | refine w_put rfl rfl rfl (Nat.le_of_ble_eq_true rfl) (Or.inl rfl) rfl rfl ?_))
      refine w_if1 rfl (fun h5 => absurd (Int32.le_iff_toInt_le.mp (show nI i ≤ 0 from h5)) (by rw [q_nI' (by omega)]; show ¬ (i : Int) ≤ 0; omega)) (fun _ => ?_)
      (repeat (first | refine w_iadd1 rfl ?_ | refine w_isub1 rfl ?_ | refine w_iinc1 rfl rfl ?_ | refine w_s rfl rfl ?_ | refine w_get rfl rfl rfl rfl ?_ | refine w_nnl rfl ?_ | refine w_nnlR rfl ?_ | refine w_nul rfl ?_ | refine w_nulR rfl ?_ | refine w_ldc rfl rfl ?_ | refine w_ldc2 rfl rfl ?_ | refine w_put rfl rfl rfl (Nat.le_of_ble_eq_true rfl) (Or.inl rfl) rfl rfl ?_))
      (refine w_cv rfl rfl rfl rfl (by exact Nat.le_of_ble_eq_true rfl) (by exact Nat.le_of_ble_eq_true rfl) (r_passes0 (c := (ax_St.u_pl c e)) hn (by show e ≤ 1000; omega) (Int8.ofInt 44).toInt32 (dg_ne h4 (by decide))) ?_; dsimp only [Option.toList, List.drop, List.cons_append, List.nil_append])
      refine w_if1 rfl (fun h5 => absurd rfl h5) (fun _ => ?_)
      (repeat (first | refine w_iadd1 rfl ?_ | refine w_isub1 rfl ?_ | refine w_iinc1 rfl rfl ?_ | refine w_s rfl rfl ?_ | refine w_get rfl rfl rfl rfl ?_ | refine w_nnl rfl ?_ | refine w_nnlR rfl ?_ | refine w_nul rfl ?_ | refine w_nulR rfl ?_ | refine w_ldc rfl rfl ?_ | refine w_ldc2 rfl rfl ?_ | refine w_put rfl rfl rfl (Nat.le_of_ble_eq_true rfl) (Or.inl rfl) rfl rfl ?_))
      (refine w_iret rfl rfl rfl ?_)
      exact ⟨0, e, lim, can, rfl, rfl, Or.inl rfl⟩
  have lp : ∀ (k i p : Nat) (l : Nat → Nat) (lim : Nat → Int32) (can : Int32), i + k = 6 → p ≤ c.tl → LimOk l lim i can → ax_wp ax_run M_Tx_readLimits (QL L xs c m o P u fr ce s dy (rl c.tl c.ch k i p l)) 2 [(0, .ref 2), (1, .ref (P.length + 0 + 40)), (2, .int (nI i))] [] (ax_hp L xs (ax_St.u_pl c p) m o (P ++ gC P.length lim fr ce s dy can), u) := by
    intro k
    induction k with
    | zero =>
      intro i p l lim can hi hp hl
      have : i = 6 := by omega
      subst this
      (repeat (first | refine w_iadd1 rfl ?_ | refine w_isub1 rfl ?_ | refine w_iinc1 rfl rfl ?_ | refine w_s rfl rfl ?_ | refine w_get rfl rfl rfl rfl ?_ | refine w_nnl rfl ?_ | refine w_nnlR rfl ?_ | refine w_nul rfl ?_ | refine w_nulR rfl ?_ | refine w_ldc rfl rfl ?_ | refine w_ldc2 rfl rfl ?_ | refine w_put rfl rfl rfl (Nat.le_of_ble_eq_true rfl) (Or.inl rfl) rfl rfl ?_))
      refine w_if2 rfl (fun _ => ?_) (fun h5 => absurd ((cn_ge (a := 6) (b := 6) (by omega) (by omega)).mpr (Nat.le_refl _)) h5)
      (repeat (first | refine w_iadd1 rfl ?_ | refine w_isub1 rfl ?_ | refine w_iinc1 rfl rfl ?_ | refine w_s rfl rfl ?_ | refine w_get rfl rfl rfl rfl ?_ | refine w_nnl rfl ?_ | refine w_nnlR rfl ?_ | refine w_nul rfl ?_ | refine w_nulR rfl ?_ | refine w_ldc rfl rfl ?_ | refine w_ldc2 rfl rfl ?_ | refine w_put rfl rfl rfl (Nat.le_of_ble_eq_true rfl) (Or.inl rfl) rfl rfl ?_))
      (refine w_iret rfl rfl rfl ?_)
      exact ⟨1, p, lim, can, rfl, rfl, rfl, hl⟩
    | succ k ih =>
      intro i p l lim can hi hp hl
      /- the number itself, from q on -/
      have num : ∀ q, q ≤ c.tl → q = (if i = 0 then p else p + 1) → (rl c.tl c.ch (k + 1) i p l = if wok c.tl c.ch q then rl c.tl c.ch k (i + 1) (q + wd c.tl c.ch q) (va_up l i (wv c.tl c.ch q)) else .inl (q + wd c.tl c.ch q)) → ax_wp ax_run M_Tx_readLimits (QL L xs c m o P u fr ce s dy (rl c.tl c.ch (k + 1) i p l)) 23 [(0, .ref 2), (1, .ref (P.length + 0 + 40)), (2, .int (nI i))] [] (ax_hp L xs (ax_St.u_pl c q) m o (P ++ gC P.length lim fr ce s dy can), u) := by
        intro q hq hqe hrl
        rw [hrl]
        have hwn := wd_n (f := c.ch) hq
        have hvl := wv_lt c.tl c.ch q
        (repeat (first | refine w_iadd1 rfl ?_ | refine w_isub1 rfl ?_ | refine w_iinc1 rfl rfl ?_ | refine w_s rfl rfl ?_ | refine w_get rfl rfl rfl rfl ?_ | refine w_nnl rfl ?_ | refine w_nnlR rfl ?_ | refine w_nul rfl ?_ | refine w_nulR rfl ?_ | refine w_ldc rfl rfl ?_ | refine w_ldc2 rfl rfl ?_ | refine w_put rfl rfl rfl (Nat.le_of_ble_eq_true rfl) (Or.inl rfl) rfl rfl ?_))
        by_cases h0 : wd c.tl c.ch q = 0
        · rw [if_neg (fun z => z.1 h0), h0]
          (refine w_cv rfl rfl rfl rfl (by exact Nat.le_of_ble_eq_true rfl) (by exact Nat.le_of_ble_eq_true rfl) (r_whole0 (c := (ax_St.u_pl c q)) hn (by show q ≤ 1000; omega) h0) ?_; dsimp only [Option.toList, List.drop, List.cons_append, List.nil_append])
          (repeat (first | refine w_iadd1 rfl ?_ | refine w_isub1 rfl ?_ | refine w_iinc1 rfl rfl ?_ | refine w_s rfl rfl ?_ | refine w_get rfl rfl rfl rfl ?_ | refine w_nnl rfl ?_ | refine w_nnlR rfl ?_ | refine w_nul rfl ?_ | refine w_nulR rfl ?_ | refine w_ldc rfl rfl ?_ | refine w_ldc2 rfl rfl ?_ | refine w_put rfl rfl rfl (Nat.le_of_ble_eq_true rfl) (Or.inl rfl) rfl rfl ?_))
          refine w_if2 rfl (fun h5 => absurd rfl h5) (fun _ => ?_)
          (repeat (first | refine w_iadd1 rfl ?_ | refine w_isub1 rfl ?_ | refine w_iinc1 rfl rfl ?_ | refine w_s rfl rfl ?_ | refine w_get rfl rfl rfl rfl ?_ | refine w_nnl rfl ?_ | refine w_nnlR rfl ?_ | refine w_nul rfl ?_ | refine w_nulR rfl ?_ | refine w_ldc rfl rfl ?_ | refine w_ldc2 rfl rfl ?_ | refine w_put rfl rfl rfl (Nat.le_of_ble_eq_true rfl) (Or.inl rfl) rfl rfl ?_))
          (refine w_iret rfl rfl rfl ?_)
          exact ⟨0, q, lim, can, rfl, rfl, Or.inl rfl⟩
        · (refine w_cv rfl rfl rfl rfl (by exact Nat.le_of_ble_eq_true rfl) (by exact Nat.le_of_ble_eq_true rfl) (r_whole1 (c := (ax_St.u_pl c q)) hn hq h0) ?_; dsimp only [Option.toList, List.drop, List.cons_append, List.nil_append])
          (repeat (first | refine w_iadd1 rfl ?_ | refine w_isub1 rfl ?_ | refine w_iinc1 rfl rfl ?_ | refine w_s rfl rfl ?_ | refine w_get rfl rfl rfl rfl ?_ | refine w_nnl rfl ?_ | refine w_nnlR rfl ?_ | refine w_nul rfl ?_ | refine w_nulR rfl ?_ | refine w_ldc rfl rfl ?_ | refine w_ldc2 rfl rfl ?_ | refine w_put rfl rfl rfl (Nat.le_of_ble_eq_true rfl) (Or.inl rfl) rfl rfl ?_))
          refine w_if2 rfl (fun _ => ?_) (fun h5 => absurd (Decidable.not_not.mp h5) (nI_ne (by omega)))
          (repeat (first | refine w_iadd1 rfl ?_ | refine w_isub1 rfl ?_ | refine w_iinc1 rfl rfl ?_ | refine w_s rfl rfl ?_ | refine w_get rfl rfl rfl rfl ?_ | refine w_nnl rfl ?_ | refine w_nnlR rfl ?_ | refine w_nul rfl ?_ | refine w_nulR rfl ?_ | refine w_ldc rfl rfl ?_ | refine w_ldc2 rfl rfl ?_ | refine w_put rfl rfl rfl (Nat.le_of_ble_eq_true rfl) (Or.inl rfl) rfl rfl ?_))
          have set1 : ∃ (lim' : Nat → Int32) (can' : Int32), LimOk (va_up l i (wv c.tl c.ch q)) lim' (i + 1) can' ∧ ax_run m_Gr_setLimit [.ref (P.length + 0 + 40), .int (nI i), .int (nI (wv c.tl c.ch q))] (ax_hp L xs (ax_St.u_pl c (q + wd c.tl c.ch q)) m o (P ++ gC P.length lim fr ce s dy can), u) (.inl none, (ax_hp L xs (ax_St.u_pl c (q + wd c.tl c.ch q)) m o (P ++ gC P.length lim' fr ce s dy can'), u)) := by
            by_cases hv : wv c.tl c.ch q ≤ 1000000
            · have hiff : lok (va_up l i (wv c.tl c.ch q)) (i + 1) ↔ lok l i := by
                constructor
                · intro z j hj
                  have := z j (by omega)
                  rw [va_up_ne _ _ (by omega)] at this
                  exact this
                · intro z j hj
                  by_cases hji : j = i
                  · subst hji; rw [va_up_self]; exact hv
                  · rw [va_up_ne _ _ hji]; exact z j (by omega)
              refine ⟨upd lim i (nI (wv c.tl c.ch q)), can, ⟨?_, fun z j hj => ?_⟩, r_setLimit1 i _ (by omega) hv⟩
              · rw [hl.can]
                exact bI_iff hiff.symm
              · unfold upd
                by_cases hji : j = i
                · subst hji; rw [if_pos rfl, va_up_self]
                · rw [if_neg hji, va_up_ne _ _ hji]; exact hl.eq (hiff.mp z) j (by omega)
            · have hno : ¬ lok (va_up l i (wv c.tl c.ch q)) (i + 1) := by
                intro z
                have := z i (by omega)
                rw [va_up_self] at this
                exact hv this
              exact ⟨lim, 0, ⟨(bI_f hno).symm, fun z => absurd z hno⟩, r_setLimit0 i _ (by omega) (by omega) hvl⟩
          obtain ⟨lim', can', hl', hset⟩ := set1
          refine w_cv rfl rfl rfl (hp_at (ga (X := gC P.length lim fr ce s dy can) (j := 0) rfl)) (Nat.le_of_ble_eq_true rfl) (Nat.le_of_ble_eq_true rfl) hset ?_
          dsimp only [Option.toList, List.drop, List.cons_append, List.nil_append]
          by_cases hov : dg c.tl c.ch (q + wd c.tl c.ch q)
          · rw [if_neg (fun z => z.2 hov)]
            (repeat ((fail_if_success (show ax_wp _ _ _ 2 _ _ _)); (first | refine w_iadd1 rfl ?_ | refine w_isub1 rfl ?_ | refine w_iinc1 rfl rfl ?_ | refine w_s rfl rfl ?_ | refine w_get rfl rfl rfl rfl ?_ | refine w_nnl rfl ?_ | refine w_nnlR rfl ?_ | refine w_nul rfl ?_ | refine w_nulR rfl ?_ | refine w_ldc rfl rfl ?_ | refine w_ldc2 rfl rfl ?_ | refine w_put rfl rfl rfl (Nat.le_of_ble_eq_true rfl) (Or.inl rfl) rfl rfl ?_)))
            exact w_lv (ov (i + 1) (q + wd c.tl c.ch q) lim' can' (by omega) (by omega) hwn hov) rfl ⟨rfl, rfl, rfl, trivial⟩
          · rw [if_pos ⟨h0, hov⟩]
            (repeat ((fail_if_success (show ax_wp _ _ _ 2 _ _ _)); (first | refine w_iadd1 rfl ?_ | refine w_isub1 rfl ?_ | refine w_iinc1 rfl rfl ?_ | refine w_s rfl rfl ?_ | refine w_get rfl rfl rfl rfl ?_ | refine w_nnl rfl ?_ | refine w_nnlR rfl ?_ | refine w_nul rfl ?_ | refine w_nulR rfl ?_ | refine w_ldc rfl rfl ?_ | refine w_ldc2 rfl rfl ?_ | refine w_put rfl rfl rfl (Nat.le_of_ble_eq_true rfl) (Or.inl rfl) rfl rfl ?_)))
            exact w_lv (ih (i + 1) (q + wd c.tl c.ch q) _ lim' can' (by omega) hwn hl') rfl ⟨rfl, rfl, rfl, trivial⟩
      (repeat (first | refine w_iadd1 rfl ?_ | refine w_isub1 rfl ?_ | refine w_iinc1 rfl rfl ?_ | refine w_s rfl rfl ?_ | refine w_get rfl rfl rfl rfl ?_ | refine w_nnl rfl ?_ | refine w_nnlR rfl ?_ | refine w_nul rfl ?_ | refine w_nulR rfl ?_ | refine w_ldc rfl rfl ?_ | refine w_ldc2 rfl rfl ?_ | refine w_put rfl rfl rfl (Nat.le_of_ble_eq_true rfl) (Or.inl rfl) rfl rfl ?_))
      refine w_if2 rfl (fun h5 => absurd ((cn_ge (a := i) (b := 6) (by omega) (by omega)).mp h5) (by omega)) (fun _ => ?_)
      (repeat (first | refine w_iadd1 rfl ?_ | refine w_isub1 rfl ?_ | refine w_iinc1 rfl rfl ?_ | refine w_s rfl rfl ?_ | refine w_get rfl rfl rfl rfl ?_ | refine w_nnl rfl ?_ | refine w_nnlR rfl ?_ | refine w_nul rfl ?_ | refine w_nulR rfl ?_ | refine w_ldc rfl rfl ?_ | refine w_ldc2 rfl rfl ?_ | refine w_put rfl rfl rfl (Nat.le_of_ble_eq_true rfl) (Or.inl rfl) rfl rfl ?_))
      by_cases hi0 : i = 0
      · subst hi0
        refine w_if1 rfl (fun _ => ?_) (fun h5 => absurd (show nI 0 ≤ 0 by decide) h5)
        refine w_lv (num p hp rfl ?_) rfl ⟨rfl, rfl, rfl, trivial⟩
        show (if (0 ≠ 0 ∧ _) then _ else _) = _
        rw [if_neg (fun z => z.1 rfl)]
        rfl
      · refine w_if1 rfl (fun h5 => absurd (Int32.le_iff_toInt_le.mp (show nI i ≤ 0 from h5)) (by rw [q_nI' (by omega)]; show ¬ (i : Int) ≤ 0; omega)) (fun _ => ?_)
        (repeat (first | refine w_iadd1 rfl ?_ | refine w_isub1 rfl ?_ | refine w_iinc1 rfl rfl ?_ | refine w_s rfl rfl ?_ | refine w_get rfl rfl rfl rfl ?_ | refine w_nnl rfl ?_ | refine w_nnlR rfl ?_ | refine w_nul rfl ?_ | refine w_nulR rfl ?_ | refine w_ldc rfl rfl ?_ | refine w_ldc2 rfl rfl ?_ | refine w_put rfl rfl rfl (Nat.le_of_ble_eq_true rfl) (Or.inl rfl) rfl rfl ?_))
        by_cases hc : nx c.tl c.ch p = 44
        · have hpl : p < c.tl := by
            by_cases z : p < c.tl
            · exact z
            · unfold nx at hc
              rw [if_neg z] at hc
              exact absurd hc (by decide)
          (refine w_cv rfl rfl rfl rfl (by exact Nat.le_of_ble_eq_true rfl) (by exact Nat.le_of_ble_eq_true rfl) (r_passes1 (c := (ax_St.u_pl c p)) hn (by show p ≤ 1000; omega) (Int8.ofInt 44).toInt32 hc) ?_; dsimp only [Option.toList, List.drop, List.cons_append, List.nil_append])
          refine w_if1 rfl (fun _ => ?_) (fun h5 => absurd k_ne1 h5)
          refine w_lv (num (p + 1) (by omega) (by rw [if_neg hi0]) ?_) rfl ⟨rfl, rfl, rfl, trivial⟩
          show (if (i ≠ 0 ∧ nx c.tl c.ch p ≠ 44) then _ else _) = _
          rw [if_neg (fun z => z.2 hc)]
          simp only [if_neg hi0]
        · (refine w_cv rfl rfl rfl rfl (by exact Nat.le_of_ble_eq_true rfl) (by exact Nat.le_of_ble_eq_true rfl) (r_passes0 (c := (ax_St.u_pl c p)) hn (by show p ≤ 1000; omega) (Int8.ofInt 44).toInt32 hc) ?_; dsimp only [Option.toList, List.drop, List.cons_append, List.nil_append])
          refine w_if1 rfl (fun h5 => absurd rfl h5) (fun _ => ?_)
          (repeat (first | refine w_iadd1 rfl ?_ | refine w_isub1 rfl ?_ | refine w_iinc1 rfl rfl ?_ | refine w_s rfl rfl ?_ | refine w_get rfl rfl rfl rfl ?_ | refine w_nnl rfl ?_ | refine w_nnlR rfl ?_ | refine w_nul rfl ?_ | refine w_nulR rfl ?_ | refine w_ldc rfl rfl ?_ | refine w_ldc2 rfl rfl ?_ | refine w_put rfl rfl rfl (Nat.le_of_ble_eq_true rfl) (Or.inl rfl) rfl rfl ?_))
          (refine w_iret rfl rfl rfl ?_)
          have e : rl c.tl c.ch (k + 1) i p l = .inl p := if_pos ⟨hi0, hc⟩
          rw [e]
          exact ⟨0, p, lim, can, rfl, rfl, Or.inl rfl⟩
  (refine ax_T_of M_Tx_readLimits rfl (Nat.le_of_ble_eq_true rfl) ?_)
  (repeat ((fail_if_success (show ax_wp _ _ _ 2 _ _ _)); (first | refine w_iadd1 rfl ?_ | refine w_isub1 rfl ?_ | refine w_iinc1 rfl rfl ?_ | refine w_s rfl rfl ?_ | refine w_get rfl rfl rfl rfl ?_ | refine w_nnl rfl ?_ | refine w_nnlR rfl ?_ | refine w_nul rfl ?_ | refine w_nulR rfl ?_ | refine w_ldc rfl rfl ?_ | refine w_ldc2 rfl rfl ?_ | refine w_put rfl rfl rfl (Nat.le_of_ble_eq_true rfl) (Or.inl rfl) rfl rfl ?_)))
  refine w_lv (lp 6 0 p (fun _ => 0) (fun _ => 0) 1 (by omega) hp ⟨(bI_t (fun j hj => absurd hj (by omega))).symm, fun _ j hj => absurd hj (by omega)⟩) rfl ⟨rfl, rfl, rfl, trivial⟩
end RLS
end
section
section RST
variable {L : Nat} {xs : Nat → Int32} {c : ax_St} {m : ax_Mo} {o : Nat → Int64} {P : List (Option ax_C)} {u : Nat}
abbrev stok (g0 : Prop) (fr ce : Nat → Nat) (s : Nat) : Prop := g0 ∧ ∀ i, i < s → sok fr ce i
abbrev StOk (g0 : Prop) [Decidable g0] (fr ce : Nat → Nat) (s : Nat) (fr' ce' : Nat → Int32) (s' : Nat) (can : Int32) : Prop := (can = bI (stok g0 fr ce s)) ∧ (s' ≤ 4) ∧ (∀ j, j < s' → ∃ z, z < 10000000 ∧ fr' j = nI z) ∧ (stok g0 fr ce s → s' = s ∧ ∀ j, j < s → fr' j = nI (fr j) ∧ ce' j = nI (ce j))
theorem StOk.can {g0 : Prop} [Decidable g0] {fr ce : Nat → Nat} {s : Nat} {fr' ce' : Nat → Int32} {s' : Nat} {can : Int32} (h_ : StOk g0 fr ce s fr' ce' s' can) : can = bI (stok g0 fr ce s) := h_.1
theorem StOk.s4 {g0 : Prop} [Decidable g0] {fr ce : Nat → Nat} {s : Nat} {fr' ce' : Nat → Int32} {s' : Nat} {can : Int32} (h_ : StOk g0 fr ce s fr' ce' s' can) : s' ≤ 4 := h_.2.1
theorem StOk.any {g0 : Prop} [Decidable g0] {fr ce : Nat → Nat} {s : Nat} {fr' ce' : Nat → Int32} {s' : Nat} {can : Int32} (h_ : StOk g0 fr ce s fr' ce' s' can) : ∀ j, j < s' → ∃ z, z < 10000000 ∧ fr' j = nI z := h_.2.2.1
theorem StOk.eq {g0 : Prop} [Decidable g0] {fr ce : Nat → Nat} {s : Nat} {fr' ce' : Nat → Int32} {s' : Nat} {can : Int32} (h_ : StOk g0 fr ce s fr' ce' s' can) : stok g0 fr ce s → s' = s ∧ ∀ j, j < s → fr' j = nI (fr j) ∧ ce' j = nI (ce j) := h_.2.2.2
theorem sok_up {fr ce : Nat → Nat} {s a v i : Nat} (h : i < s) : sok (va_up fr s a) (va_up ce s v) i ↔ sok fr ce i := by
  unfold sok
  rw [va_up_ne _ _ (by omega), va_up_ne _ _ (by omega), va_up_ne _ _ (by omega)]
theorem stok_up {g0 : Prop} {fr ce : Nat → Nat} {s a v : Nat} : stok g0 (va_up fr s a) (va_up ce s v) (s + 1) ↔ stok g0 fr ce s ∧ sok (va_up fr s a) (va_up ce s v) s := by
  constructor
  · intro h
    exact ⟨⟨h.1, fun i hi => (sok_up hi).mp (h.2 i (by omega))⟩, h.2 s (by omega)⟩
  · intro h
    refine ⟨h.1.1, fun i hi => ?_⟩
    by_cases his : i = s
    · subst his; exact h.2
    · exact (sok_up (by omega)).mpr (h.1.2 i (by omega))
/-- one step more -/
theorem r_step {g0 : Prop} [Decidable g0] {fr ce : Nat → Nat} {s : Nat} {fr' ce' : Nat → Int32} {s' : Nat} {can dy : Int32} {lim : Nat → Int32} (h : StOk g0 fr ce s fr' ce' s' can) (hraw : ∀ j, j < s → fr j < 10000000) (a v : Nat) (ha : a < 10000000) (hv : v < 10000000) :
    ∃ (fr2 ce2 : Nat → Int32) (s2 : Nat) (can2 : Int32), StOk g0 (va_up fr s a) (va_up ce s v) (s + 1) fr2 ce2 s2 can2 ∧ ax_run m_Gr_addStep [.ref (P.length + 0 + 40), .int (nI a), .int (nI v)] (ax_hp L xs c m o (P ++ gC P.length lim fr' ce' s' dy can), u) (.inl none, (ax_hp L xs c m o (P ++ gC P.length lim fr2 ce2 s2 dy can2), u)) := by
  obtain ⟨ah, hah, hz0, hz1⟩ : ∃ ah, ah < 10000000 ∧ (s' = 0 → ah = 0) ∧ (s' ≠ 0 → fr' (s' - 1) = nI ah) := by
    by_cases hz : s' = 0
    · exact ⟨0, by omega, fun _ => rfl, fun z => absurd hz z⟩
    · obtain ⟨z, h1, h2⟩ := h.any (s' - 1) (by omega)
      exact ⟨z, h1, fun q => absurd q hz, fun _ => h2⟩
  have hrun := r_addStep (L := L) (xs := xs) (c := c) (m := m) (o := o) (P := P) (u := u) (lim := lim) (fr := fr') (ce := ce') (s := s') (dy := dy) (can := can) a v ah h.s4 ha hv hah hz0 hz1
  by_cases hg : stok g0 fr ce s
  · obtain ⟨hs, heq⟩ := h.eq hg
    subst hs
    have hah2 : ah = (if s' = 0 then 0 else fr (s' - 1)) := by
      by_cases hz : s' = 0
      · rw [if_pos hz]; exact hz0 hz
      · rw [if_neg hz]
        have h1 := hz1 hz
        rw [(heq (s' - 1) (by omega)).1] at h1
        have h2 := congrArg Int32.toInt h1
        have h3 := hraw (s' - 1) (by omega)
        rw [q_nI' (by omega), q_nI' (by omega)] at h2
        omega
    have hcond : (s' < 4 ∧ ah < a ∧ a ≤ 1000000 ∧ 1 ≤ v ∧ v ≤ 1000000) ↔ sok (va_up fr s' a) (va_up ce s' v) s' := by
      unfold sok
      rw [va_up_self, va_up_self, hah2]
      by_cases hz : s' = 0
      · rw [if_pos hz, if_pos hz]
      · rw [if_neg hz, if_neg hz, va_up_ne _ _ (by omega)]
    by_cases hc : s' < 4 ∧ ah < a ∧ a ≤ 1000000 ∧ 1 ≤ v ∧ v ≤ 1000000
    · rw [if_pos hc] at hrun
      have hgood : stok g0 (va_up fr s' a) (va_up ce s' v) (s' + 1) := stok_up.mpr ⟨hg, hcond.mp hc⟩
      refine ⟨_, _, _, _, ⟨?_, by omega, fun j hj => ?_, fun _ => ⟨rfl, fun j hj => ?_⟩⟩, hrun⟩
      · rw [h.can, bI_t hg, bI_t hgood]
      · unfold upd
        by_cases hjs : j = s'
        · rw [if_pos hjs]; exact ⟨a, ha, rfl⟩
        · rw [if_neg hjs]; exact h.any j (by omega)
      · unfold upd
        by_cases hjs : j = s'
        · subst hjs
          rw [if_pos rfl, if_pos rfl, va_up_self, va_up_self]
          exact ⟨rfl, rfl⟩
        · rw [if_neg hjs, if_neg hjs, va_up_ne _ _ hjs, va_up_ne _ _ hjs]
          exact heq j (by omega)
    · rw [if_neg hc] at hrun
      have hbad : ¬ stok g0 (va_up fr s' a) (va_up ce s' v) (s' + 1) := fun z => hc (hcond.mpr (stok_up.mp z).2)
      exact ⟨_, _, _, _, ⟨(bI_f hbad).symm, h.s4, h.any, fun z => absurd z hbad⟩, hrun⟩
  · have hbad : ¬ stok g0 (va_up fr s a) (va_up ce s v) (s + 1) := fun z => hg (stok_up.mp z).1
    have hcan : can = 0 := by rw [h.can, bI_f hg]; rfl
    by_cases hc : s' < 4 ∧ ah < a ∧ a ≤ 1000000 ∧ 1 ≤ v ∧ v ≤ 1000000
    · rw [if_pos hc] at hrun
      refine ⟨_, _, _, _, ⟨?_, by omega, fun j hj => ?_, fun z => absurd z hbad⟩, hrun⟩
      · rw [hcan]; exact (bI_f hbad).symm
      · unfold upd
        by_cases hjs : j = s'
        · rw [if_pos hjs]; exact ⟨a, ha, rfl⟩
        · rw [if_neg hjs]; exact h.any j (by omega)
    · rw [if_neg hc] at hrun
      exact ⟨_, _, _, _, ⟨(bI_f hbad).symm, h.s4, h.any, fun z => absurd z hbad⟩, hrun⟩
def PostS (g0 : Prop) [Decidable g0] (n : Nat) (f : Nat → Int32) (q : Nat ⊕ (Nat × Nat × (Nat → Nat) × (Nat → Nat))) (b : Int32) (p : Nat) (fr' ce' : Nat → Int32) (s' : Nat) (can : Int32) : Prop := match q with
  | .inl e => p = e ∧ (b = 0 ∨ (b = 1 ∧ dg n f e))
  | .inr (e, s, fr, ce) => p = e ∧ b = 1 ∧ StOk g0 fr ce s fr' ce' s' can
def QS (g0 : Prop) [Decidable g0] (L : Nat) (xs : Nat → Int32) (c : ax_St) (m : ax_Mo) (o : Nat → Int64) (P : List (Option ax_C)) (u : Nat) (lim : Nat → Int32) (dy : Int32) (q : Nat ⊕ (Nat × Nat × (Nat → Nat) × (Nat → Nat))) (r : ax_R) : Prop :=
  ∃ (b : Int32) (p : Nat) (fr' ce' : Nat → Int32) (s' : Nat) (can : Int32), r = (.inl (some (.int b)), (ax_hp L xs (ax_St.u_pl c p) m o (P ++ gC P.length lim fr' ce' s' dy can), u)) ∧ PostS g0 c.tl c.ch q b p fr' ce' s' can
theorem nx_lt {n : Nat} {f : Nat → Int32} {p : Nat} {x : Int32} (h : nx n f p = x) (hx : ¬ x = -1) : p < n := by
  by_cases z : p < n
  · exact z
  · unfold nx at h
    rw [if_neg z] at h
    exact absurd h.symm hx
theorem r_readSteps {g0 : Prop} [Decidable g0] {lim : Nat → Int32} {dy : Int32} (hn : c.tl ≤ 400) (p : Nat) (hp : p ≤ c.tl) :
    ax_T m_Tx_readSteps [.ref 2, .ref (P.length + 0 + 40)] (ax_hp L xs (ax_St.u_pl c p) m o (P ++ gC P.length lim (fun _ => 0) (fun _ => 0) 0 dy (bI g0)), u) (QS g0 L xs c m o P u lim dy (rs c.tl c.ch 101 0 p (fun _ => 0) (fun _ => 0))) := by
  have lp : ∀ (k i p : Nat) (fr ce : Nat → Nat) (fr' ce' : Nat → Int32) (s' : Nat) (can : Int32), i + k = 101 → 4 * i ≤ p → p ≤ c.tl → (∀ j, j < i → fr j < 10000000) → StOk g0 fr ce i fr' ce' s' can → ax_wp ax_run M_Tx_readSteps (QS g0 L xs c m o P u lim dy (rs c.tl c.ch k i p fr ce)) 2 [(0, .ref 2), (1, .ref (P.length + 0 + 40)), (2, .int (nI i))] [] (ax_hp L xs (ax_St.u_pl c p) m o (P ++ gC P.length lim fr' ce' s' dy can), u) := by
    intro k
    induction k with
    | zero => intro i p fr ce fr' ce' s' can hi h4 hp hraw hst; omega
    | succ k ih =>
      intro i p fr ce fr' ce' s' can hi h4 hp hraw hst
      have hwn := wd_n (f := c.ch) hp
      have hvl := wv_lt c.tl c.ch p
      (repeat (first | refine w_iadd1 rfl ?_ | refine w_isub1 rfl ?_ | refine w_iinc1 rfl rfl ?_ | refine w_s rfl rfl ?_ | refine w_get rfl rfl rfl rfl ?_ | refine w_nnl rfl ?_ | refine w_nnlR rfl ?_ | refine w_nul rfl ?_ | refine w_nulR rfl ?_ | refine w_ldc rfl rfl ?_ | refine w_ldc2 rfl rfl ?_ | refine w_put rfl rfl rfl (Nat.le_of_ble_eq_true rfl) (Or.inl rfl) rfl rfl ?_))
      refine w_if2 rfl (fun h5 => absurd ((cn_ge (a := i) (b := 400) (by omega) (by omega)).mp h5) (by omega)) (fun _ => ?_)
      (repeat (first | refine w_iadd1 rfl ?_ | refine w_isub1 rfl ?_ | refine w_iinc1 rfl rfl ?_ | refine w_s rfl rfl ?_ | refine w_get rfl rfl rfl rfl ?_ | refine w_nnl rfl ?_ | refine w_nnlR rfl ?_ | refine w_nul rfl ?_ | refine w_nulR rfl ?_ | refine w_ldc rfl rfl ?_ | refine w_ldc2 rfl rfl ?_ | refine w_put rfl rfl rfl (Nat.le_of_ble_eq_true rfl) (Or.inl rfl) rfl rfl ?_))
      unfold rs
      by_cases h0 : wd c.tl c.ch p = 0
      · rw [if_pos (fun z => z.1 h0), h0]
        (refine w_cv rfl rfl rfl rfl (by exact Nat.le_of_ble_eq_true rfl) (by exact Nat.le_of_ble_eq_true rfl) (r_whole0 (c := (ax_St.u_pl c p)) hn (by show p ≤ 1000; omega) h0) ?_; dsimp only [Option.toList, List.drop, List.cons_append, List.nil_append])
        (repeat (first | refine w_iadd1 rfl ?_ | refine w_isub1 rfl ?_ | refine w_iinc1 rfl rfl ?_ | refine w_s rfl rfl ?_ | refine w_get rfl rfl rfl rfl ?_ | refine w_nnl rfl ?_ | refine w_nnlR rfl ?_ | refine w_nul rfl ?_ | refine w_nulR rfl ?_ | refine w_ldc rfl rfl ?_ | refine w_ldc2 rfl rfl ?_ | refine w_put rfl rfl rfl (Nat.le_of_ble_eq_true rfl) (Or.inl rfl) rfl rfl ?_))
        refine w_if2 rfl (fun _ => ?_) (fun h5 => absurd rfl h5)
        (repeat (first | refine w_iadd1 rfl ?_ | refine w_isub1 rfl ?_ | refine w_iinc1 rfl rfl ?_ | refine w_s rfl rfl ?_ | refine w_get rfl rfl rfl rfl ?_ | refine w_nnl rfl ?_ | refine w_nnlR rfl ?_ | refine w_nul rfl ?_ | refine w_nulR rfl ?_ | refine w_ldc rfl rfl ?_ | refine w_ldc2 rfl rfl ?_ | refine w_put rfl rfl rfl (Nat.le_of_ble_eq_true rfl) (Or.inl rfl) rfl rfl ?_))
        (refine w_iret rfl rfl rfl ?_)
        exact ⟨0, p, fr', ce', s', can, rfl, rfl, Or.inl rfl⟩
      · (refine w_cv rfl rfl rfl rfl (by exact Nat.le_of_ble_eq_true rfl) (by exact Nat.le_of_ble_eq_true rfl) (r_whole1 (c := (ax_St.u_pl c p)) hn hp h0) ?_; dsimp only [Option.toList, List.drop, List.cons_append, List.nil_append])
        (repeat (first | refine w_iadd1 rfl ?_ | refine w_isub1 rfl ?_ | refine w_iinc1 rfl rfl ?_ | refine w_s rfl rfl ?_ | refine w_get rfl rfl rfl rfl ?_ | refine w_nnl rfl ?_ | refine w_nnlR rfl ?_ | refine w_nul rfl ?_ | refine w_nulR rfl ?_ | refine w_ldc rfl rfl ?_ | refine w_ldc2 rfl rfl ?_ | refine w_put rfl rfl rfl (Nat.le_of_ble_eq_true rfl) (Or.inl rfl) rfl rfl ?_))
        refine w_if2 rfl (fun h5 => absurd h5 (nI_ne (by omega))) (fun _ => ?_)
        (repeat (first | refine w_iadd1 rfl ?_ | refine w_isub1 rfl ?_ | refine w_iinc1 rfl rfl ?_ | refine w_s rfl rfl ?_ | refine w_get rfl rfl rfl rfl ?_ | refine w_nnl rfl ?_ | refine w_nnlR rfl ?_ | refine w_nul rfl ?_ | refine w_nulR rfl ?_ | refine w_ldc rfl rfl ?_ | refine w_ldc2 rfl rfl ?_ | refine w_put rfl rfl rfl (Nat.le_of_ble_eq_true rfl) (Or.inl rfl) rfl rfl ?_))
        by_cases hov : dg c.tl c.ch (p + wd c.tl c.ch p)
        · rw [if_pos (fun z => z.2 hov)]
          (refine w_cv rfl rfl rfl rfl (by exact Nat.le_of_ble_eq_true rfl) (by exact Nat.le_of_ble_eq_true rfl) (r_passes0 (c := (ax_St.u_pl c (p + wd c.tl c.ch p))) hn (by show p + wd c.tl c.ch p ≤ 1000; omega) (Int8.ofInt 64).toInt32 (dg_ne hov (by decide))) ?_; dsimp only [Option.toList, List.drop, List.cons_append, List.nil_append])
          refine w_if1 rfl (fun h5 => absurd rfl h5) (fun _ => ?_)
          (repeat (first | refine w_iadd1 rfl ?_ | refine w_isub1 rfl ?_ | refine w_iinc1 rfl rfl ?_ | refine w_s rfl rfl ?_ | refine w_get rfl rfl rfl rfl ?_ | refine w_nnl rfl ?_ | refine w_nnlR rfl ?_ | refine w_nul rfl ?_ | refine w_nulR rfl ?_ | refine w_ldc rfl rfl ?_ | refine w_ldc2 rfl rfl ?_ | refine w_put rfl rfl rfl (Nat.le_of_ble_eq_true rfl) (Or.inl rfl) rfl rfl ?_))
          (refine w_iret rfl rfl rfl ?_)
          exact ⟨0, _, fr', ce', s', can, rfl, rfl, Or.inl rfl⟩
        · rw [if_neg (fun z => z ⟨h0, hov⟩)]
          by_cases h64 : nx c.tl c.ch (p + wd c.tl c.ch p) = 64
          · rw [if_neg (fun z => z h64)]
            have hlt := nx_lt h64 (by decide)
            (refine w_cv rfl rfl rfl rfl (by exact Nat.le_of_ble_eq_true rfl) (by exact Nat.le_of_ble_eq_true rfl) (r_passes1 (c := (ax_St.u_pl c (p + wd c.tl c.ch p))) hn (by show p + wd c.tl c.ch p ≤ 1000; omega) (Int8.ofInt 64).toInt32 h64) ?_; dsimp only [Option.toList, List.drop, List.cons_append, List.nil_append])
            refine w_if1 rfl (fun _ => ?_) (fun h5 => absurd k_ne1 h5)
            (repeat (first | refine w_iadd1 rfl ?_ | refine w_isub1 rfl ?_ | refine w_iinc1 rfl rfl ?_ | refine w_s rfl rfl ?_ | refine w_get rfl rfl rfl rfl ?_ | refine w_nnl rfl ?_ | refine w_nnlR rfl ?_ | refine w_nul rfl ?_ | refine w_nulR rfl ?_ | refine w_ldc rfl rfl ?_ | refine w_ldc2 rfl rfl ?_ | refine w_put rfl rfl rfl (Nat.le_of_ble_eq_true rfl) (Or.inl rfl) rfl rfl ?_))
            have hq : p + wd c.tl c.ch p + 1 ≤ c.tl := by omega
            generalize hQ : p + wd c.tl c.ch p + 1 = q at hq
            have hwq := wd_n (f := c.ch) hq
            have hvq := wv_lt c.tl c.ch q
            by_cases h1 : wd c.tl c.ch q = 0
            · rw [if_pos (fun z => z.1 h1), h1]
              (refine w_cv rfl rfl rfl rfl (by exact Nat.le_of_ble_eq_true rfl) (by exact Nat.le_of_ble_eq_true rfl) (r_whole0 (c := (ax_St.u_pl c q)) hn (by show q ≤ 1000; omega) h1) ?_; dsimp only [Option.toList, List.drop, List.cons_append, List.nil_append])
              (repeat (first | refine w_iadd1 rfl ?_ | refine w_isub1 rfl ?_ | refine w_iinc1 rfl rfl ?_ | refine w_s rfl rfl ?_ | refine w_get rfl rfl rfl rfl ?_ | refine w_nnl rfl ?_ | refine w_nnlR rfl ?_ | refine w_nul rfl ?_ | refine w_nulR rfl ?_ | refine w_ldc rfl rfl ?_ | refine w_ldc2 rfl rfl ?_ | refine w_put rfl rfl rfl (Nat.le_of_ble_eq_true rfl) (Or.inl rfl) rfl rfl ?_))
              refine w_if2 rfl (fun h5 => absurd rfl h5) (fun _ => ?_)
              (repeat (first | refine w_iadd1 rfl ?_ | refine w_isub1 rfl ?_ | refine w_iinc1 rfl rfl ?_ | refine w_s rfl rfl ?_ | refine w_get rfl rfl rfl rfl ?_ | refine w_nnl rfl ?_ | refine w_nnlR rfl ?_ | refine w_nul rfl ?_ | refine w_nulR rfl ?_ | refine w_ldc rfl rfl ?_ | refine w_ldc2 rfl rfl ?_ | refine w_put rfl rfl rfl (Nat.le_of_ble_eq_true rfl) (Or.inl rfl) rfl rfl ?_))
              (refine w_iret rfl rfl rfl ?_)
              exact ⟨0, q, fr', ce', s', can, rfl, rfl, Or.inl rfl⟩
            · (refine w_cv rfl rfl rfl rfl (by exact Nat.le_of_ble_eq_true rfl) (by exact Nat.le_of_ble_eq_true rfl) (r_whole1 (c := (ax_St.u_pl c q)) hn hq h1) ?_; dsimp only [Option.toList, List.drop, List.cons_append, List.nil_append])
              (repeat (first | refine w_iadd1 rfl ?_ | refine w_isub1 rfl ?_ | refine w_iinc1 rfl rfl ?_ | refine w_s rfl rfl ?_ | refine w_get rfl rfl rfl rfl ?_ | refine w_nnl rfl ?_ | refine w_nnlR rfl ?_ | refine w_nul rfl ?_ | refine w_nulR rfl ?_ | refine w_ldc rfl rfl ?_ | refine w_ldc2 rfl rfl ?_ | refine w_put rfl rfl rfl (Nat.le_of_ble_eq_true rfl) (Or.inl rfl) rfl rfl ?_))
              refine w_if2 rfl (fun _ => ?_) (fun h5 => absurd (Decidable.not_not.mp h5) (nI_ne (by omega)))
              (repeat (first | refine w_iadd1 rfl ?_ | refine w_isub1 rfl ?_ | refine w_iinc1 rfl rfl ?_ | refine w_s rfl rfl ?_ | refine w_get rfl rfl rfl rfl ?_ | refine w_nnl rfl ?_ | refine w_nnlR rfl ?_ | refine w_nul rfl ?_ | refine w_nulR rfl ?_ | refine w_ldc rfl rfl ?_ | refine w_ldc2 rfl rfl ?_ | refine w_put rfl rfl rfl (Nat.le_of_ble_eq_true rfl) (Or.inl rfl) rfl rfl ?_))
              obtain ⟨fr2, ce2, s2, can2, hst2, hrun⟩ := r_step (L := L) (xs := xs) (c := (ax_St.u_pl c (q + wd c.tl c.ch q))) (m := m) (o := o) (P := P) (u := u) (dy := dy) (lim := lim) hst hraw (wv c.tl c.ch p) (wv c.tl c.ch q) hvl hvq
              refine w_cv rfl rfl rfl (hp_at (ga (X := gC P.length lim fr' ce' s' dy can) (j := 0) rfl)) (Nat.le_of_ble_eq_true rfl) (Nat.le_of_ble_eq_true rfl) hrun ?_
              dsimp only [Option.toList, List.drop, List.cons_append, List.nil_append]
              (repeat (first | refine w_iadd1 rfl ?_ | refine w_isub1 rfl ?_ | refine w_iinc1 rfl rfl ?_ | refine w_s rfl rfl ?_ | refine w_get rfl rfl rfl rfl ?_ | refine w_nnl rfl ?_ | refine w_nnlR rfl ?_ | refine w_nul rfl ?_ | refine w_nulR rfl ?_ | refine w_ldc rfl rfl ?_ | refine w_ldc2 rfl rfl ?_ | refine w_put rfl rfl rfl (Nat.le_of_ble_eq_true rfl) (Or.inl rfl) rfl rfl ?_))
              by_cases hov2 : dg c.tl c.ch (q + wd c.tl c.ch q)
              · rw [if_pos (fun z => z.2 hov2)]
                (refine w_cv rfl rfl rfl rfl (by exact Nat.le_of_ble_eq_true rfl) (by exact Nat.le_of_ble_eq_true rfl) (r_passes0 (c := (ax_St.u_pl c (q + wd c.tl c.ch q))) hn (by show q + wd c.tl c.ch q ≤ 1000; omega) (Int8.ofInt 44).toInt32 (dg_ne hov2 (by decide))) ?_; dsimp only [Option.toList, List.drop, List.cons_append, List.nil_append])
                refine w_if1 rfl (fun h5 => absurd rfl h5) (fun _ => ?_)
                (repeat (first | refine w_iadd1 rfl ?_ | refine w_isub1 rfl ?_ | refine w_iinc1 rfl rfl ?_ | refine w_s rfl rfl ?_ | refine w_get rfl rfl rfl rfl ?_ | refine w_nnl rfl ?_ | refine w_nnlR rfl ?_ | refine w_nul rfl ?_ | refine w_nulR rfl ?_ | refine w_ldc rfl rfl ?_ | refine w_ldc2 rfl rfl ?_ | refine w_put rfl rfl rfl (Nat.le_of_ble_eq_true rfl) (Or.inl rfl) rfl rfl ?_))
                (refine w_iret rfl rfl rfl ?_)
                exact ⟨1, _, fr2, ce2, s2, can2, rfl, rfl, Or.inr ⟨rfl, hov2⟩⟩
              · rw [if_neg (fun z => z ⟨h1, hov2⟩)]
                by_cases h44 : nx c.tl c.ch (q + wd c.tl c.ch q) = 44
                · rw [if_pos h44]
                  have hlt2 := nx_lt h44 (by decide)
                  (refine w_cv rfl rfl rfl rfl (by exact Nat.le_of_ble_eq_true rfl) (by exact Nat.le_of_ble_eq_true rfl) (r_passes1 (c := (ax_St.u_pl c (q + wd c.tl c.ch q))) hn (by show q + wd c.tl c.ch q ≤ 1000; omega) (Int8.ofInt 44).toInt32 h44) ?_; dsimp only [Option.toList, List.drop, List.cons_append, List.nil_append])
                  refine w_if1 rfl (fun _ => ?_) (fun h5 => absurd k_ne1 h5)
                  (repeat ((fail_if_success (show ax_wp _ _ _ 2 _ _ _)); (first | refine w_iadd1 rfl ?_ | refine w_isub1 rfl ?_ | refine w_iinc1 rfl rfl ?_ | refine w_s rfl rfl ?_ | refine w_get rfl rfl rfl rfl ?_ | refine w_nnl rfl ?_ | refine w_nnlR rfl ?_ | refine w_nul rfl ?_ | refine w_nulR rfl ?_ | refine w_ldc rfl rfl ?_ | refine w_ldc2 rfl rfl ?_ | refine w_put rfl rfl rfl (Nat.le_of_ble_eq_true rfl) (Or.inl rfl) rfl rfl ?_)))
                  refine w_lv (ih (i + 1) (q + wd c.tl c.ch q + 1) _ _ fr2 ce2 s2 can2 (by omega) (by omega) (by omega) (fun j hj => ?_) hst2) rfl ⟨rfl, rfl, rfl, trivial⟩
                  by_cases hji : j = i
                  · subst hji; rw [va_up_self]; exact hvl
                  · rw [va_up_ne _ _ hji]; exact hraw j (by omega)
                · rw [if_neg h44]
                  (refine w_cv rfl rfl rfl rfl (by exact Nat.le_of_ble_eq_true rfl) (by exact Nat.le_of_ble_eq_true rfl) (r_passes0 (c := (ax_St.u_pl c (q + wd c.tl c.ch q))) hn (by show q + wd c.tl c.ch q ≤ 1000; omega) (Int8.ofInt 44).toInt32 h44) ?_; dsimp only [Option.toList, List.drop, List.cons_append, List.nil_append])
                  refine w_if1 rfl (fun h5 => absurd rfl h5) (fun _ => ?_)
                  (repeat (first | refine w_iadd1 rfl ?_ | refine w_isub1 rfl ?_ | refine w_iinc1 rfl rfl ?_ | refine w_s rfl rfl ?_ | refine w_get rfl rfl rfl rfl ?_ | refine w_nnl rfl ?_ | refine w_nnlR rfl ?_ | refine w_nul rfl ?_ | refine w_nulR rfl ?_ | refine w_ldc rfl rfl ?_ | refine w_ldc2 rfl rfl ?_ | refine w_put rfl rfl rfl (Nat.le_of_ble_eq_true rfl) (Or.inl rfl) rfl rfl ?_))
                  (refine w_iret rfl rfl rfl ?_)
                  exact ⟨1, _, fr2, ce2, s2, can2, rfl, rfl, rfl, hst2⟩
          · rw [if_pos h64]
            (refine w_cv rfl rfl rfl rfl (by exact Nat.le_of_ble_eq_true rfl) (by exact Nat.le_of_ble_eq_true rfl) (r_passes0 (c := (ax_St.u_pl c (p + wd c.tl c.ch p))) hn (by show p + wd c.tl c.ch p ≤ 1000; omega) (Int8.ofInt 64).toInt32 h64) ?_; dsimp only [Option.toList, List.drop, List.cons_append, List.nil_append])
            refine w_if1 rfl (fun h5 => absurd rfl h5) (fun _ => ?_)
            (repeat (first | refine w_iadd1 rfl ?_ | refine w_isub1 rfl ?_ | refine w_iinc1 rfl rfl ?_ | refine w_s rfl rfl ?_ | refine w_get rfl rfl rfl rfl ?_ | refine w_nnl rfl ?_ | refine w_nnlR rfl ?_ | refine w_nul rfl ?_ | refine w_nulR rfl ?_ | refine w_ldc rfl rfl ?_ | refine w_ldc2 rfl rfl ?_ | refine w_put rfl rfl rfl (Nat.le_of_ble_eq_true rfl) (Or.inl rfl) rfl rfl ?_))
            (refine w_iret rfl rfl rfl ?_)
            exact ⟨0, _, fr', ce', s', can, rfl, rfl, Or.inl rfl⟩
  (refine ax_T_of M_Tx_readSteps rfl (Nat.le_of_ble_eq_true rfl) ?_)
  (repeat ((fail_if_success (show ax_wp _ _ _ 2 _ _ _)); (first | refine w_iadd1 rfl ?_ | refine w_isub1 rfl ?_ | refine w_iinc1 rfl rfl ?_ | refine w_s rfl rfl ?_ | refine w_get rfl rfl rfl rfl ?_ | refine w_nnl rfl ?_ | refine w_nnlR rfl ?_ | refine w_nul rfl ?_ | refine w_nulR rfl ?_ | refine w_ldc rfl rfl ?_ | refine w_ldc2 rfl rfl ?_ | refine w_put rfl rfl rfl (Nat.le_of_ble_eq_true rfl) (Or.inl rfl) rfl rfl ?_)))
  refine w_lv (lp 101 0 p (fun _ => 0) (fun _ => 0) (fun _ => 0) (fun _ => 0) 0 (bI g0) (by omega) (by omega) hp (fun j hj => absurd hj (by omega)) ⟨bI_iff ⟨fun z => ⟨z, fun i hi => absurd hi (by omega)⟩, fun z => z.1⟩, by decide, fun j hj => absurd hj (by omega), fun _ => ⟨rfl, fun j hj => absurd hj (by omega)⟩⟩) rfl ⟨rfl, rfl, rfl, trivial⟩
end RST
end
section
/-- a class's text, from p on -/
def rg (n : Nat) (f : Nat → Int32) (p : Nat) : Nat ⊕ (Nat × ax_Rw) :=
  if nx n f p ≠ 67 then .inl p else match rl n f 6 0 (p + 1) (fun _ => 0) with
    | .inl e => .inl e
    | .inr (q, l) => if nx n f q ≠ 58 then .inl q else match rs n f 101 0 (q + 1) (fun _ => 0) (fun _ => 0) with
      | .inl e => .inl e
      | .inr (r, s, fr, ce) => match rd n f r with
        | .inl e => .inl e
        | .inr (t, dy) => .inr (t, ⟨l, s, fr, ce, dy⟩)
abbrev gok (d : ax_Rw) : Prop := stok (lok d.lim 6) d.fr d.ce d.s ∧ d.dy ≤ 1000
/-- a grade says what the text says -/
abbrev GM (G : ax_Gr) (d : ax_Rw) : Prop := (∀ j, j < 6 → G.lim j = nI (d.lim j)) ∧ (G.st = d.s) ∧ (∀ j, j < d.s → G.fr j = nI (d.fr j)) ∧ (∀ j, j < d.s → G.ce j = nI (d.ce j)) ∧ (G.dy = nI d.dy)
theorem GM.lim {G : ax_Gr} {d : ax_Rw} (h_ : GM G d) : ∀ j, j < 6 → G.lim j = nI (d.lim j) := h_.1
theorem GM.st {G : ax_Gr} {d : ax_Rw} (h_ : GM G d) : G.st = d.s := h_.2.1
theorem GM.fr {G : ax_Gr} {d : ax_Rw} (h_ : GM G d) : ∀ j, j < d.s → G.fr j = nI (d.fr j) := h_.2.2.1
theorem GM.ce {G : ax_Gr} {d : ax_Rw} (h_ : GM G d) : ∀ j, j < d.s → G.ce j = nI (d.ce j) := h_.2.2.2.1
theorem GM.dy {G : ax_Gr} {d : ax_Rw} (h_ : GM G d) : G.dy = nI d.dy := h_.2.2.2.2
section RGD
variable {L : Nat} {xs : Nat → Int32} {c : ax_St} {m : ax_Mo} {o : Nat → Int64} {P : List (Option ax_C)} {u : Nat}
theorem r_readDays {lim fr ce : Nat → Int32} {s : Nat} {g : Prop} [Decidable g] (hn : c.tl ≤ 400) (p : Nat) (hp : p ≤ c.tl) (h0 : wd c.tl c.ch p ≠ 0) :
    ∃ (dy' can' : Int32), can' = bI (g ∧ wv c.tl c.ch p ≤ 1000) ∧ (g ∧ wv c.tl c.ch p ≤ 1000 → dy' = nI (wv c.tl c.ch p)) ∧ ax_run m_Tx_readDays [.ref 2, .ref (P.length + 0 + 40)] (ax_hp L xs (ax_St.u_pl c p) m o (P ++ gC P.length lim fr ce s 0 (bI g)), u) (.inl (some (.int 1)), (ax_hp L xs (ax_St.u_pl c (p + wd c.tl c.ch p)) m o (P ++ gC P.length lim fr ce s dy' can'), u)) := by
  have hvl := wv_lt c.tl c.ch p
  by_cases hv : wv c.tl c.ch p ≤ 1000
  · refine ⟨nI (wv c.tl c.ch p), bI g, bI_iff ⟨fun z => ⟨z, hv⟩, fun z => z.1⟩, fun _ => rfl, ?_⟩
    (refine ax_run_T (ax_T_of M_Tx_readDays rfl (Nat.le_of_ble_eq_true rfl) ?_))
    (repeat (first | refine w_iadd1 rfl ?_ | refine w_isub1 rfl ?_ | refine w_iinc1 rfl rfl ?_ | refine w_s rfl rfl ?_ | refine w_get rfl rfl rfl rfl ?_ | refine w_nnl rfl ?_ | refine w_nnlR rfl ?_ | refine w_nul rfl ?_ | refine w_nulR rfl ?_ | refine w_ldc rfl rfl ?_ | refine w_ldc2 rfl rfl ?_ | refine w_put rfl rfl rfl (Nat.le_of_ble_eq_true rfl) (Or.inl rfl) rfl rfl ?_))
    (refine w_cv rfl rfl rfl rfl (by exact Nat.le_of_ble_eq_true rfl) (by exact Nat.le_of_ble_eq_true rfl) (r_whole1 (c := (ax_St.u_pl c p)) hn hp h0) ?_; dsimp only [Option.toList, List.drop, List.cons_append, List.nil_append])
    (repeat (first | refine w_iadd1 rfl ?_ | refine w_isub1 rfl ?_ | refine w_iinc1 rfl rfl ?_ | refine w_s rfl rfl ?_ | refine w_get rfl rfl rfl rfl ?_ | refine w_nnl rfl ?_ | refine w_nnlR rfl ?_ | refine w_nul rfl ?_ | refine w_nulR rfl ?_ | refine w_ldc rfl rfl ?_ | refine w_ldc2 rfl rfl ?_ | refine w_put rfl rfl rfl (Nat.le_of_ble_eq_true rfl) (Or.inl rfl) rfl rfl ?_))
    refine w_if2 rfl (fun _ => ?_) (fun h5 => absurd (Decidable.not_not.mp h5) (nI_ne (by omega)))
    (repeat (first | refine w_iadd1 rfl ?_ | refine w_isub1 rfl ?_ | refine w_iinc1 rfl rfl ?_ | refine w_s rfl rfl ?_ | refine w_get rfl rfl rfl rfl ?_ | refine w_nnl rfl ?_ | refine w_nnlR rfl ?_ | refine w_nul rfl ?_ | refine w_nulR rfl ?_ | refine w_ldc rfl rfl ?_ | refine w_ldc2 rfl rfl ?_ | refine w_put rfl rfl rfl (Nat.le_of_ble_eq_true rfl) (Or.inl rfl) rfl rfl ?_))
    refine w_cv rfl rfl rfl (hp_at (ga (X := gC P.length lim fr ce s 0 (bI g)) (j := 0) rfl)) (Nat.le_of_ble_eq_true rfl) (Nat.le_of_ble_eq_true rfl) (r_setDays1 (wv c.tl c.ch p) hv) ?_
    dsimp only [Option.toList, List.drop, List.cons_append, List.nil_append]
    (repeat (first | refine w_iadd1 rfl ?_ | refine w_isub1 rfl ?_ | refine w_iinc1 rfl rfl ?_ | refine w_s rfl rfl ?_ | refine w_get rfl rfl rfl rfl ?_ | refine w_nnl rfl ?_ | refine w_nnlR rfl ?_ | refine w_nul rfl ?_ | refine w_nulR rfl ?_ | refine w_ldc rfl rfl ?_ | refine w_ldc2 rfl rfl ?_ | refine w_put rfl rfl rfl (Nat.le_of_ble_eq_true rfl) (Or.inl rfl) rfl rfl ?_))
    (refine w_iret rfl rfl rfl ?_)
    rfl
  · refine ⟨0, 0, (bI_f (fun z => hv z.2)).symm, fun z => absurd z.2 hv, ?_⟩
    (refine ax_run_T (ax_T_of M_Tx_readDays rfl (Nat.le_of_ble_eq_true rfl) ?_))
    (repeat (first | refine w_iadd1 rfl ?_ | refine w_isub1 rfl ?_ | refine w_iinc1 rfl rfl ?_ | refine w_s rfl rfl ?_ | refine w_get rfl rfl rfl rfl ?_ | refine w_nnl rfl ?_ | refine w_nnlR rfl ?_ | refine w_nul rfl ?_ | refine w_nulR rfl ?_ | refine w_ldc rfl rfl ?_ | refine w_ldc2 rfl rfl ?_ | refine w_put rfl rfl rfl (Nat.le_of_ble_eq_true rfl) (Or.inl rfl) rfl rfl ?_))
    (refine w_cv rfl rfl rfl rfl (by exact Nat.le_of_ble_eq_true rfl) (by exact Nat.le_of_ble_eq_true rfl) (r_whole1 (c := (ax_St.u_pl c p)) hn hp h0) ?_; dsimp only [Option.toList, List.drop, List.cons_append, List.nil_append])
    (repeat (first | refine w_iadd1 rfl ?_ | refine w_isub1 rfl ?_ | refine w_iinc1 rfl rfl ?_ | refine w_s rfl rfl ?_ | refine w_get rfl rfl rfl rfl ?_ | refine w_nnl rfl ?_ | refine w_nnlR rfl ?_ | refine w_nul rfl ?_ | refine w_nulR rfl ?_ | refine w_ldc rfl rfl ?_ | refine w_ldc2 rfl rfl ?_ | refine w_put rfl rfl rfl (Nat.le_of_ble_eq_true rfl) (Or.inl rfl) rfl rfl ?_))
    refine w_if2 rfl (fun _ => ?_) (fun h5 => absurd (Decidable.not_not.mp h5) (nI_ne (by omega)))
    (repeat (first | refine w_iadd1 rfl ?_ | refine w_isub1 rfl ?_ | refine w_iinc1 rfl rfl ?_ | refine w_s rfl rfl ?_ | refine w_get rfl rfl rfl rfl ?_ | refine w_nnl rfl ?_ | refine w_nnlR rfl ?_ | refine w_nul rfl ?_ | refine w_nulR rfl ?_ | refine w_ldc rfl rfl ?_ | refine w_ldc2 rfl rfl ?_ | refine w_put rfl rfl rfl (Nat.le_of_ble_eq_true rfl) (Or.inl rfl) rfl rfl ?_))
    refine w_cv rfl rfl rfl (hp_at (ga (X := gC P.length lim fr ce s 0 (bI g)) (j := 0) rfl)) (Nat.le_of_ble_eq_true rfl) (Nat.le_of_ble_eq_true rfl) (r_setDays0 (wv c.tl c.ch p) (by omega) hvl) ?_
    dsimp only [Option.toList, List.drop, List.cons_append, List.nil_append]
    (repeat (first | refine w_iadd1 rfl ?_ | refine w_isub1 rfl ?_ | refine w_iinc1 rfl rfl ?_ | refine w_s rfl rfl ?_ | refine w_get rfl rfl rfl rfl ?_ | refine w_nnl rfl ?_ | refine w_nnlR rfl ?_ | refine w_nul rfl ?_ | refine w_nulR rfl ?_ | refine w_ldc rfl rfl ?_ | refine w_ldc2 rfl rfl ?_ | refine w_put rfl rfl rfl (Nat.le_of_ble_eq_true rfl) (Or.inl rfl) rfl rfl ?_))
    (refine w_iret rfl rfl rfl ?_)
    rfl
theorem r_readDays0 {lim fr ce : Nat → Int32} {s : Nat} {dy can : Int32} (hn : c.tl ≤ 400) (p : Nat) (hp : p ≤ c.tl) (h0 : wd c.tl c.ch p = 0) :
    ax_run m_Tx_readDays [.ref 2, .ref (P.length + 0 + 40)] (ax_hp L xs (ax_St.u_pl c p) m o (P ++ gC P.length lim fr ce s dy can), u) (.inl (some (.int 0)), (ax_hp L xs (ax_St.u_pl c p) m o (P ++ gC P.length lim fr ce s dy can), u)) := by
  (refine ax_run_T (ax_T_of M_Tx_readDays rfl (Nat.le_of_ble_eq_true rfl) ?_))
  (repeat (first | refine w_iadd1 rfl ?_ | refine w_isub1 rfl ?_ | refine w_iinc1 rfl rfl ?_ | refine w_s rfl rfl ?_ | refine w_get rfl rfl rfl rfl ?_ | refine w_nnl rfl ?_ | refine w_nnlR rfl ?_ | refine w_nul rfl ?_ | refine w_nulR rfl ?_ | refine w_ldc rfl rfl ?_ | refine w_ldc2 rfl rfl ?_ | refine w_put rfl rfl rfl (Nat.le_of_ble_eq_true rfl) (Or.inl rfl) rfl rfl ?_))
  (refine w_cv rfl rfl rfl rfl (by exact Nat.le_of_ble_eq_true rfl) (by exact Nat.le_of_ble_eq_true rfl) (r_whole0 (c := (ax_St.u_pl c p)) hn (by show p ≤ 1000; omega) h0) ?_; dsimp only [Option.toList, List.drop, List.cons_append, List.nil_append])
  (repeat (first | refine w_iadd1 rfl ?_ | refine w_isub1 rfl ?_ | refine w_iinc1 rfl rfl ?_ | refine w_s rfl rfl ?_ | refine w_get rfl rfl rfl rfl ?_ | refine w_nnl rfl ?_ | refine w_nnlR rfl ?_ | refine w_nul rfl ?_ | refine w_nulR rfl ?_ | refine w_ldc rfl rfl ?_ | refine w_ldc2 rfl rfl ?_ | refine w_put rfl rfl rfl (Nat.le_of_ble_eq_true rfl) (Or.inl rfl) rfl rfl ?_))
  refine w_if2 rfl (fun h5 => absurd rfl h5) (fun _ => ?_)
  (repeat (first | refine w_iadd1 rfl ?_ | refine w_isub1 rfl ?_ | refine w_iinc1 rfl rfl ?_ | refine w_s rfl rfl ?_ | refine w_get rfl rfl rfl rfl ?_ | refine w_nnl rfl ?_ | refine w_nnlR rfl ?_ | refine w_nul rfl ?_ | refine w_nulR rfl ?_ | refine w_ldc rfl rfl ?_ | refine w_ldc2 rfl rfl ?_ | refine w_put rfl rfl rfl (Nat.le_of_ble_eq_true rfl) (Or.inl rfl) rfl rfl ?_))
  (refine w_iret rfl rfl rfl ?_)
  rfl
theorem rl_le (n : Nat) (f : Nat → Int32) : ∀ k i p l, p ≤ n → match rl n f k i p l with | .inl e => e ≤ n | .inr (q, _) => q ≤ n := by
  intro k
  induction k with
  | zero => intro i p l hp; exact hp
  | succ k ih =>
    intro i p l hp
    unfold rl
    by_cases h1 : i ≠ 0 ∧ nx n f p ≠ 44
    · rw [if_pos h1]; exact hp
    · rw [if_neg h1]
      have hq : (if i = 0 then p else p + 1) ≤ n := by
        by_cases hi : i = 0
        · rw [if_pos hi]; exact hp
        · rw [if_neg hi]
          have : nx n f p = 44 := Decidable.not_not.mp (fun z => h1 ⟨hi, z⟩)
          have := nx_lt this (by decide)
          omega
      have hw := wd_n (f := f) hq
      by_cases h2 : wok n f (if i = 0 then p else p + 1)
      · rw [if_pos h2]
        exact ih _ _ _ hw
      · rw [if_neg h2]
        exact hw
theorem rs_le (n : Nat) (f : Nat → Int32) : ∀ k s p fr ce, p ≤ n → match rs n f k s p fr ce with | .inl e => e ≤ n | .inr (q, _) => q ≤ n := by
  intro k
  induction k with
  | zero => intro s p fr ce hp; exact hp
  | succ k ih =>
    intro s p fr ce hp
    unfold rs
    have hw := wd_n (f := f) hp
    by_cases h1 : ¬ wok n f p
    · rw [if_pos h1]; exact hw
    · rw [if_neg h1]
      by_cases h2 : nx n f (p + wd n f p) ≠ 64
      · rw [if_pos h2]; exact hw
      · rw [if_neg h2]
        have hlt := nx_lt (Decidable.not_not.mp h2) (by decide)
        have hq : p + wd n f p + 1 ≤ n := by omega
        have hw2 := wd_n (f := f) hq
        by_cases h3 : ¬ wok n f (p + wd n f p + 1)
        · rw [if_pos h3]; exact hw2
        · rw [if_neg h3]
          by_cases h4 : nx n f (p + wd n f p + 1 + wd n f (p + wd n f p + 1)) = 44
          · rw [if_pos h4]
            have := nx_lt h4 (by decide)
            exact ih _ _ _ _ (by omega)
          · rw [if_neg h4]; exact hw2
/-- how the reading of a class ends -/
def QG (L : Nat) (xs : Nat → Int32) (c : ax_St) (m : ax_Mo) (o : Nat → Int64) (P : List (Option ax_C)) (u : Nat) (q : Nat ⊕ (Nat × ax_Rw)) (r : ax_R) : Prop := match q with
  | .inl e => ∃ (X : List (Option ax_C)) (u' : Nat), r = (.inl (some .null), (ax_hp L xs (ax_St.u_pl c e) m o (P ++ X), u')) ∧ X.length ≤ 4 ∧ u' ≤ u + 20
  | .inr (t, d) => ∃ (lim fr ce : Nat → Int32) (s : Nat) (dy can : Int32), r = (.inl (some (.ref (P.length + 0 + 40))), (ax_hp L xs (ax_St.u_pl c t) m o (P ++ gC P.length lim fr ce s dy can), u + 20)) ∧ can = bI (gok d) ∧ (gok d → GM ⟨lim, fr, ce, s, dy⟩ d)
theorem r_readGrade (hn : c.tl ≤ 400) (p : Nat) (hp : p ≤ c.tl) :
    ax_T m_Tx_readGrade [.ref 2] (ax_hp L xs (ax_St.u_pl c p) m o P, u) (QG L xs c m o P u (rg c.tl c.ch p)) := by
  (refine ax_T_of M_Tx_readGrade rfl (Nat.le_of_ble_eq_true rfl) ?_)
  (repeat (first | refine w_iadd1 rfl ?_ | refine w_isub1 rfl ?_ | refine w_iinc1 rfl rfl ?_ | refine w_s rfl rfl ?_ | refine w_get rfl rfl rfl rfl ?_ | refine w_nnl rfl ?_ | refine w_nnlR rfl ?_ | refine w_nul rfl ?_ | refine w_nulR rfl ?_ | refine w_ldc rfl rfl ?_ | refine w_ldc2 rfl rfl ?_ | refine w_put rfl rfl rfl (Nat.le_of_ble_eq_true rfl) (Or.inl rfl) rfl rfl ?_))
  unfold rg
  by_cases h67 : nx c.tl c.ch p = 67
  · rw [if_neg (fun z => z h67)]
    have hlt := nx_lt h67 (by decide)
    (refine w_cv rfl rfl rfl rfl (by exact Nat.le_of_ble_eq_true rfl) (by exact Nat.le_of_ble_eq_true rfl) (r_passes1 (c := (ax_St.u_pl c p)) hn (by show p ≤ 1000; omega) (Int8.ofInt 67).toInt32 h67) ?_; dsimp only [Option.toList, List.drop, List.cons_append, List.nil_append])
    refine w_if1 rfl (fun _ => ?_) (fun h5 => absurd k_ne1 h5)
    refine w_new rfl rfl ?_
    have e1 : (ax_hp L xs (ax_St.u_pl c (p + 1)) m o P).length = P.length + 0 + 40 := rfl
    have e2 : ax_hp L xs (ax_St.u_pl c (p + 1)) m o P ++ [some (.inr (3, ax_dfl 3))] = ax_hp L xs (ax_St.u_pl c (p + 1)) m o (P ++ [ax_ob 3 (ax_dfl 3)]) := rfl
    show ax_wp _ _ _ _ _ [.ref (ax_hp L xs (ax_St.u_pl c (p + 1)) m o P).length] (ax_hp L xs (ax_St.u_pl c (p + 1)) m o P ++ [some (.inr (3, ax_dfl 3))], u + 6)
    rw [e1, e2]
    (repeat (first | refine w_iadd1 rfl ?_ | refine w_isub1 rfl ?_ | refine w_iinc1 rfl rfl ?_ | refine w_s rfl rfl ?_ | refine w_get rfl rfl rfl rfl ?_ | refine w_nnl rfl ?_ | refine w_nnlR rfl ?_ | refine w_nul rfl ?_ | refine w_nulR rfl ?_ | refine w_ldc rfl rfl ?_ | refine w_ldc2 rfl rfl ?_ | refine w_put rfl rfl rfl (Nat.le_of_ble_eq_true rfl) (Or.inl rfl) rfl rfl ?_))
    (refine w_ci rfl rfl rfl (by exact Nat.le_of_ble_eq_true rfl) (by exact Nat.le_of_ble_eq_true rfl) (r_Gr_init (c := (ax_St.u_pl c (p + 1))) (P := P)) ?_; dsimp only [Option.toList, List.drop, List.cons_append, List.nil_append])
    (repeat (first | refine w_iadd1 rfl ?_ | refine w_isub1 rfl ?_ | refine w_iinc1 rfl rfl ?_ | refine w_s rfl rfl ?_ | refine w_get rfl rfl rfl rfl ?_ | refine w_nnl rfl ?_ | refine w_nnlR rfl ?_ | refine w_nul rfl ?_ | refine w_nulR rfl ?_ | refine w_ldc rfl rfl ?_ | refine w_ldc2 rfl rfl ?_ | refine w_put rfl rfl rfl (Nat.le_of_ble_eq_true rfl) (Or.inl rfl) rfl rfl ?_))
    have fl : ∀ (e : Nat) (X : List (Option ax_C)), X.length ≤ 4 → ax_wp ax_run M_Tx_readGrade (QG L xs c m o P u (.inl e)) 74 [] [] (ax_hp L xs (ax_St.u_pl c e) m o (P ++ X), u + 6 + 6 + 4 + 4) := by
      intro e X hX
      (repeat (first | refine w_iadd1 rfl ?_ | refine w_isub1 rfl ?_ | refine w_iinc1 rfl rfl ?_ | refine w_s rfl rfl ?_ | refine w_get rfl rfl rfl rfl ?_ | refine w_nnl rfl ?_ | refine w_nnlR rfl ?_ | refine w_nul rfl ?_ | refine w_nulR rfl ?_ | refine w_ldc rfl rfl ?_ | refine w_ldc2 rfl rfl ?_ | refine w_put rfl rfl rfl (Nat.le_of_ble_eq_true rfl) (Or.inl rfl) rfl rfl ?_))
      refine w_if1 rfl (fun _ => ?_) (fun h5 => absurd rfl h5)
      (repeat (first | refine w_iadd1 rfl ?_ | refine w_isub1 rfl ?_ | refine w_iinc1 rfl rfl ?_ | refine w_s rfl rfl ?_ | refine w_get rfl rfl rfl rfl ?_ | refine w_nnl rfl ?_ | refine w_nnlR rfl ?_ | refine w_nul rfl ?_ | refine w_nulR rfl ?_ | refine w_ldc rfl rfl ?_ | refine w_ldc2 rfl rfl ?_ | refine w_put rfl rfl rfl (Nat.le_of_ble_eq_true rfl) (Or.inl rfl) rfl rfl ?_))
      exact w_aret rfl rfl rfl ⟨X, u + 6 + 6 + 4 + 4, rfl, hX, by omega⟩
    obtain ⟨r1, hr1, b, p1, lim, can, rfl, hpost⟩ := r_readLimits (L := L) (xs := xs) (c := c) (m := m) (o := o) (P := P) (u := u + 6 + 6 + 4 + 4) (fr := fun _ => 0) (ce := fun _ => 0) (s := 0) (dy := 0) hn (p + 1) (by omega)
    (refine w_cv rfl rfl rfl rfl (by exact Nat.le_of_ble_eq_true rfl) (by exact Nat.le_of_ble_eq_true rfl) hr1 ?_; dsimp only [Option.toList, List.drop, List.cons_append, List.nil_append])
    have hle := rl_le c.tl c.ch 6 0 (p + 1) (fun _ => 0) (by omega)
    generalize rl c.tl c.ch 6 0 (p + 1) (fun _ => 0) = RL at hpost hle
    cases RL with
    | inl e =>
      obtain ⟨rfl, hb⟩ := hpost
      have hle' : p1 ≤ c.tl := hle
      rcases hb with rfl | ⟨rfl, hd⟩
      · refine w_if1 rfl (fun _ => ?_) (fun h5 => absurd rfl h5)
        exact w_lv (fl p1 (gC P.length lim _ _ _ _ can) (Nat.le_refl 4)) rfl trivial
      · refine w_if1 rfl (fun h5 => absurd h5 k_eq1) (fun _ => ?_)
        (repeat (first | refine w_iadd1 rfl ?_ | refine w_isub1 rfl ?_ | refine w_iinc1 rfl rfl ?_ | refine w_s rfl rfl ?_ | refine w_get rfl rfl rfl rfl ?_ | refine w_nnl rfl ?_ | refine w_nnlR rfl ?_ | refine w_nul rfl ?_ | refine w_nulR rfl ?_ | refine w_ldc rfl rfl ?_ | refine w_ldc2 rfl rfl ?_ | refine w_put rfl rfl rfl (Nat.le_of_ble_eq_true rfl) (Or.inl rfl) rfl rfl ?_))
        (refine w_cv rfl rfl rfl rfl (by exact Nat.le_of_ble_eq_true rfl) (by exact Nat.le_of_ble_eq_true rfl) (r_passes0 (c := (ax_St.u_pl c p1)) hn (by show p1 ≤ 1000; omega) (Int8.ofInt 58).toInt32 (dg_ne hd (by decide))) ?_; dsimp only [Option.toList, List.drop, List.cons_append, List.nil_append])
        refine w_if1 rfl (fun _ => ?_) (fun h5 => absurd rfl h5)
        exact w_lv (fl p1 (gC P.length lim _ _ _ _ can) (Nat.le_refl 4)) rfl trivial
    | inr ql =>
      obtain ⟨q, l⟩ := ql
      obtain ⟨rfl, rfl, hlim⟩ := hpost
      have hle' : p1 ≤ c.tl := hle
      refine w_if1 rfl (fun h5 => absurd h5 k_eq1) (fun _ => ?_)
      (repeat (first | refine w_iadd1 rfl ?_ | refine w_isub1 rfl ?_ | refine w_iinc1 rfl rfl ?_ | refine w_s rfl rfl ?_ | refine w_get rfl rfl rfl rfl ?_ | refine w_nnl rfl ?_ | refine w_nnlR rfl ?_ | refine w_nul rfl ?_ | refine w_nulR rfl ?_ | refine w_ldc rfl rfl ?_ | refine w_ldc2 rfl rfl ?_ | refine w_put rfl rfl rfl (Nat.le_of_ble_eq_true rfl) (Or.inl rfl) rfl rfl ?_))
      show ax_wp _ _ (QG L xs c m o P u (if nx c.tl c.ch p1 ≠ 58 then .inl p1 else _)) _ _ _ _
      by_cases h58 : nx c.tl c.ch p1 = 58
      · rw [if_neg (fun z => z h58)]
        have hlt2 := nx_lt h58 (by decide)
        (refine w_cv rfl rfl rfl rfl (by exact Nat.le_of_ble_eq_true rfl) (by exact Nat.le_of_ble_eq_true rfl) (r_passes1 (c := (ax_St.u_pl c p1)) hn (by show p1 ≤ 1000; omega) (Int8.ofInt 58).toInt32 h58) ?_; dsimp only [Option.toList, List.drop, List.cons_append, List.nil_append])
        refine w_if1 rfl (fun h5 => absurd h5 k_eq1) (fun _ => ?_)
        (repeat (first | refine w_iadd1 rfl ?_ | refine w_isub1 rfl ?_ | refine w_iinc1 rfl rfl ?_ | refine w_s rfl rfl ?_ | refine w_get rfl rfl rfl rfl ?_ | refine w_nnl rfl ?_ | refine w_nnlR rfl ?_ | refine w_nul rfl ?_ | refine w_nulR rfl ?_ | refine w_ldc rfl rfl ?_ | refine w_ldc2 rfl rfl ?_ | refine w_put rfl rfl rfl (Nat.le_of_ble_eq_true rfl) (Or.inl rfl) rfl rfl ?_))
        rw [hlim.can]
        obtain ⟨r2, hr2, b2, p2, fr', ce', s', can2, rfl, hpost2⟩ := r_readSteps (L := L) (xs := xs) (c := c) (m := m) (o := o) (P := P) (u := u + 6 + 6 + 4 + 4) (g0 := lok l 6) (lim := lim) (dy := 0) hn (p1 + 1) (by omega)
        (refine w_cv rfl rfl rfl rfl (by exact Nat.le_of_ble_eq_true rfl) (by exact Nat.le_of_ble_eq_true rfl) hr2 ?_; dsimp only [Option.toList, List.drop, List.cons_append, List.nil_append])
        have hle2 := rs_le c.tl c.ch 101 0 (p1 + 1) (fun _ => 0) (fun _ => 0) (by omega)
        generalize rs c.tl c.ch 101 0 (p1 + 1) (fun _ => 0) (fun _ => 0) = RS at hpost2 hle2
        cases RS with
        | inl e =>
          obtain ⟨rfl, hb⟩ := hpost2
          have hle2' : p2 ≤ c.tl := hle2
          rcases hb with rfl | ⟨rfl, hd⟩
          · refine w_if1 rfl (fun _ => ?_) (fun h5 => absurd rfl h5)
            exact w_lv (fl p2 (gC P.length lim _ _ _ _ can2) (Nat.le_refl 4)) rfl trivial
          · refine w_if1 rfl (fun h5 => absurd h5 k_eq1) (fun _ => ?_)
            (repeat (first | refine w_iadd1 rfl ?_ | refine w_isub1 rfl ?_ | refine w_iinc1 rfl rfl ?_ | refine w_s rfl rfl ?_ | refine w_get rfl rfl rfl rfl ?_ | refine w_nnl rfl ?_ | refine w_nnlR rfl ?_ | refine w_nul rfl ?_ | refine w_nulR rfl ?_ | refine w_ldc rfl rfl ?_ | refine w_ldc2 rfl rfl ?_ | refine w_put rfl rfl rfl (Nat.le_of_ble_eq_true rfl) (Or.inl rfl) rfl rfl ?_))
            (refine w_cv rfl rfl rfl rfl (by exact Nat.le_of_ble_eq_true rfl) (by exact Nat.le_of_ble_eq_true rfl) (r_passes0 (c := (ax_St.u_pl c p2)) hn (by show p2 ≤ 1000; omega) (Int8.ofInt 47).toInt32 (dg_ne hd (by decide))) ?_; dsimp only [Option.toList, List.drop, List.cons_append, List.nil_append])
            refine w_if1 rfl (fun _ => ?_) (fun h5 => absurd rfl h5)
            exact w_lv (fl p2 (gC P.length lim _ _ _ _ can2) (Nat.le_refl 4)) rfl trivial
        | inr qs =>
          obtain ⟨q2, s, fr, ce⟩ := qs
          obtain ⟨rfl, rfl, hst⟩ := hpost2
          have hle2' : p2 ≤ c.tl := hle2
          refine w_if1 rfl (fun h5 => absurd h5 k_eq1) (fun _ => ?_)
          (repeat (first | refine w_iadd1 rfl ?_ | refine w_isub1 rfl ?_ | refine w_iinc1 rfl rfl ?_ | refine w_s rfl rfl ?_ | refine w_get rfl rfl rfl rfl ?_ | refine w_nnl rfl ?_ | refine w_nnlR rfl ?_ | refine w_nul rfl ?_ | refine w_nulR rfl ?_ | refine w_ldc rfl rfl ?_ | refine w_ldc2 rfl rfl ?_ | refine w_put rfl rfl rfl (Nat.le_of_ble_eq_true rfl) (Or.inl rfl) rfl rfl ?_))
          show ax_wp _ _ (QG L xs c m o P u (match rd c.tl c.ch p2 with | .inl e => .inl e | .inr (t, dy) => .inr (t, ⟨l, s, fr, ce, dy⟩))) _ _ _ _
          unfold rd
          by_cases h47 : nx c.tl c.ch p2 = 47
          · rw [if_neg (fun z => z h47)]
            have hlt3 := nx_lt h47 (by decide)
            (refine w_cv rfl rfl rfl rfl (by exact Nat.le_of_ble_eq_true rfl) (by exact Nat.le_of_ble_eq_true rfl) (r_passes1 (c := (ax_St.u_pl c p2)) hn (by show p2 ≤ 1000; omega) (Int8.ofInt 47).toInt32 h47) ?_; dsimp only [Option.toList, List.drop, List.cons_append, List.nil_append])
            refine w_if1 rfl (fun h5 => absurd h5 k_eq1) (fun _ => ?_)
            (repeat (first | refine w_iadd1 rfl ?_ | refine w_isub1 rfl ?_ | refine w_iinc1 rfl rfl ?_ | refine w_s rfl rfl ?_ | refine w_get rfl rfl rfl rfl ?_ | refine w_nnl rfl ?_ | refine w_nnlR rfl ?_ | refine w_nul rfl ?_ | refine w_nulR rfl ?_ | refine w_ldc rfl rfl ?_ | refine w_ldc2 rfl rfl ?_ | refine w_put rfl rfl rfl (Nat.le_of_ble_eq_true rfl) (Or.inl rfl) rfl rfl ?_))
            have hq3 : p2 + 1 ≤ c.tl := by omega
            generalize p2 + 1 = p3 at hq3
            have hw3 := wd_n (f := c.ch) hq3
            by_cases h0 : wd c.tl c.ch p3 = 0
            · rw [if_pos (fun z => z.1 h0), h0]
              (refine w_cv rfl rfl rfl rfl (by exact Nat.le_of_ble_eq_true rfl) (by exact Nat.le_of_ble_eq_true rfl) (r_readDays0 (c := c) hn p3 hq3 h0) ?_; dsimp only [Option.toList, List.drop, List.cons_append, List.nil_append])
              refine w_if1 rfl (fun _ => ?_) (fun h5 => absurd rfl h5)
              exact w_lv (fl p3 (gC P.length lim _ _ _ _ can2) (Nat.le_refl 4)) rfl trivial
            · rw [hst.can]
              obtain ⟨dy', can', hcan', hdy', hr3⟩ := r_readDays (L := L) (xs := xs) (c := c) (m := m) (o := o) (P := P) (u := u + 6 + 6 + 4 + 4) (lim := lim) (fr := fr') (ce := ce') (s := s') (g := stok (lok l 6) fr ce s) hn p3 hq3 h0
              (refine w_cv rfl rfl rfl rfl (by exact Nat.le_of_ble_eq_true rfl) (by exact Nat.le_of_ble_eq_true rfl) hr3 ?_; dsimp only [Option.toList, List.drop, List.cons_append, List.nil_append])
              refine w_if1 rfl (fun h5 => absurd h5 k_eq1) (fun _ => ?_)
              (repeat (first | refine w_iadd1 rfl ?_ | refine w_isub1 rfl ?_ | refine w_iinc1 rfl rfl ?_ | refine w_s rfl rfl ?_ | refine w_get rfl rfl rfl rfl ?_ | refine w_nnl rfl ?_ | refine w_nnlR rfl ?_ | refine w_nul rfl ?_ | refine w_nulR rfl ?_ | refine w_ldc rfl rfl ?_ | refine w_ldc2 rfl rfl ?_ | refine w_put rfl rfl rfl (Nat.le_of_ble_eq_true rfl) (Or.inl rfl) rfl rfl ?_))
              by_cases hov : dg c.tl c.ch (p3 + wd c.tl c.ch p3)
              · rw [if_pos (fun z => z.2 hov)]
                (refine w_cv rfl rfl rfl rfl (by exact Nat.le_of_ble_eq_true rfl) (by exact Nat.le_of_ble_eq_true rfl) (r_passes0 (c := (ax_St.u_pl c (p3 + wd c.tl c.ch p3))) hn (by show p3 + wd c.tl c.ch p3 ≤ 1000; omega) (Int8.ofInt 59).toInt32 (dg_ne hov (by decide))) ?_; dsimp only [Option.toList, List.drop, List.cons_append, List.nil_append])
                refine w_if1 rfl (fun _ => ?_) (fun h5 => absurd rfl h5)
                exact w_lv (fl _ (gC P.length lim _ _ _ _ can') (Nat.le_refl 4)) rfl trivial
              · rw [if_neg (fun z => z ⟨h0, hov⟩)]
                by_cases h59 : nx c.tl c.ch (p3 + wd c.tl c.ch p3) = 59
                · rw [if_neg (fun z => z h59)]
                  (refine w_cv rfl rfl rfl rfl (by exact Nat.le_of_ble_eq_true rfl) (by exact Nat.le_of_ble_eq_true rfl) (r_passes1 (c := (ax_St.u_pl c (p3 + wd c.tl c.ch p3))) hn (by show p3 + wd c.tl c.ch p3 ≤ 1000; omega) (Int8.ofInt 59).toInt32 h59) ?_; dsimp only [Option.toList, List.drop, List.cons_append, List.nil_append])
                  refine w_if1 rfl (fun h5 => absurd h5 k_eq1) (fun _ => ?_)
                  (repeat (first | refine w_iadd1 rfl ?_ | refine w_isub1 rfl ?_ | refine w_iinc1 rfl rfl ?_ | refine w_s rfl rfl ?_ | refine w_get rfl rfl rfl rfl ?_ | refine w_nnl rfl ?_ | refine w_nnlR rfl ?_ | refine w_nul rfl ?_ | refine w_nulR rfl ?_ | refine w_ldc rfl rfl ?_ | refine w_ldc2 rfl rfl ?_ | refine w_put rfl rfl rfl (Nat.le_of_ble_eq_true rfl) (Or.inl rfl) rfl rfl ?_))
                  refine w_if1 rfl (fun h5 => absurd h5 k_eq1) (fun _ => ?_)
                  (repeat (first | refine w_iadd1 rfl ?_ | refine w_isub1 rfl ?_ | refine w_iinc1 rfl rfl ?_ | refine w_s rfl rfl ?_ | refine w_get rfl rfl rfl rfl ?_ | refine w_nnl rfl ?_ | refine w_nnlR rfl ?_ | refine w_nul rfl ?_ | refine w_nulR rfl ?_ | refine w_ldc rfl rfl ?_ | refine w_ldc2 rfl rfl ?_ | refine w_put rfl rfl rfl (Nat.le_of_ble_eq_true rfl) (Or.inl rfl) rfl rfl ?_))
                  refine w_aret rfl rfl rfl ⟨lim, fr', ce', s', dy', can', rfl, hcan', fun hg => ?_⟩
                  have h8 := hst.eq hg.1
                  exact ⟨fun j hj => hlim.eq hg.1.1 j hj, h8.1, fun j hj => (h8.2 j hj).1, fun j hj => (h8.2 j hj).2, hdy' hg⟩
                · rw [if_pos h59]
                  (refine w_cv rfl rfl rfl rfl (by exact Nat.le_of_ble_eq_true rfl) (by exact Nat.le_of_ble_eq_true rfl) (r_passes0 (c := (ax_St.u_pl c (p3 + wd c.tl c.ch p3))) hn (by show p3 + wd c.tl c.ch p3 ≤ 1000; omega) (Int8.ofInt 59).toInt32 h59) ?_; dsimp only [Option.toList, List.drop, List.cons_append, List.nil_append])
                  refine w_if1 rfl (fun _ => ?_) (fun h5 => absurd rfl h5)
                  exact w_lv (fl _ (gC P.length lim _ _ _ _ can') (Nat.le_refl 4)) rfl trivial
          · rw [if_pos h47]
            (refine w_cv rfl rfl rfl rfl (by exact Nat.le_of_ble_eq_true rfl) (by exact Nat.le_of_ble_eq_true rfl) (r_passes0 (c := (ax_St.u_pl c p2)) hn (by show p2 ≤ 1000; omega) (Int8.ofInt 47).toInt32 h47) ?_; dsimp only [Option.toList, List.drop, List.cons_append, List.nil_append])
            refine w_if1 rfl (fun _ => ?_) (fun h5 => absurd rfl h5)
            exact w_lv (fl p2 (gC P.length lim _ _ _ _ can2) (Nat.le_refl 4)) rfl trivial
      · rw [if_pos h58]
        (refine w_cv rfl rfl rfl rfl (by exact Nat.le_of_ble_eq_true rfl) (by exact Nat.le_of_ble_eq_true rfl) (r_passes0 (c := (ax_St.u_pl c p1)) hn (by show p1 ≤ 1000; omega) (Int8.ofInt 58).toInt32 h58) ?_; dsimp only [Option.toList, List.drop, List.cons_append, List.nil_append])
        refine w_if1 rfl (fun _ => ?_) (fun h5 => absurd rfl h5)
        exact w_lv (fl p1 (gC P.length lim _ _ _ _ can) (Nat.le_refl 4)) rfl trivial
  · rw [if_pos h67]
    (refine w_cv rfl rfl rfl rfl (by exact Nat.le_of_ble_eq_true rfl) (by exact Nat.le_of_ble_eq_true rfl) (r_passes0 (c := (ax_St.u_pl c p)) hn (by show p ≤ 1000; omega) (Int8.ofInt 67).toInt32 h67) ?_; dsimp only [Option.toList, List.drop, List.cons_append, List.nil_append])
    refine w_if1 rfl (fun h5 => absurd rfl h5) (fun _ => ?_)
    (repeat (first | refine w_iadd1 rfl ?_ | refine w_isub1 rfl ?_ | refine w_iinc1 rfl rfl ?_ | refine w_s rfl rfl ?_ | refine w_get rfl rfl rfl rfl ?_ | refine w_nnl rfl ?_ | refine w_nnlR rfl ?_ | refine w_nul rfl ?_ | refine w_nulR rfl ?_ | refine w_ldc rfl rfl ?_ | refine w_ldc2 rfl rfl ?_ | refine w_put rfl rfl rfl (Nat.le_of_ble_eq_true rfl) (Or.inl rfl) rfl rfl ?_))
    exact w_aret rfl rfl rfl ⟨[], u, by rw [List.append_nil], Nat.zero_le _, by omega⟩
end RGD
end
section
/-- the CLASSES of a text, at most k of them, from number i on -/
def ro (n : Nat) (f : Nat → Int32) : Nat → Nat → Nat → (Nat → ax_Rw) → Nat ⊕ (Nat × (Nat → ax_Rw))
  | 0, _, p, _ => .inl p
  | k + 1, i, p, ds => match rg n f p with
    | .inl e => .inl e
    | .inr (t, d) => if ¬ (gok d ∧ i < 4) then .inl p else if n ≤ t then .inr (i + 1, va_up ds i d) else ro n f k (i + 1) t (va_up ds i d)
theorem rg_le (n : Nat) (f : Nat → Int32) (p : Nat) (hp : p ≤ n) : match rg n f p with | .inl e => e ≤ n | .inr (q, _) => q ≤ n := by
  unfold rg
  by_cases h1 : nx n f p = 67
  · rw [if_neg (fun z => z h1)]
    have hlt := nx_lt h1 (by decide)
    have h2 := rl_le n f 6 0 (p + 1) (fun _ => 0) (by omega)
    generalize rl n f 6 0 (p + 1) (fun _ => 0) = RL at h2
    cases RL with
    | inl e => exact h2
    | inr ql =>
      obtain ⟨q, l⟩ := ql
      have h2' : q ≤ n := h2
      show match (if nx n f q ≠ 58 then _ else _) with | .inl e => e ≤ n | .inr (q, _) => q ≤ n
      by_cases h3 : nx n f q = 58
      · rw [if_neg (fun z => z h3)]
        have hlt2 := nx_lt h3 (by decide)
        have h4 := rs_le n f 101 0 (q + 1) (fun _ => 0) (fun _ => 0) (by omega)
        generalize rs n f 101 0 (q + 1) (fun _ => 0) (fun _ => 0) = RS at h4
        cases RS with
        | inl e => exact h4
        | inr qs =>
          obtain ⟨r, s, fr, ce⟩ := qs
          have h4' : r ≤ n := h4
          have h5 : match rd n f r with | .inl e => e ≤ n | .inr (q, _) => q ≤ n := by
            unfold rd
            by_cases h6 : nx n f r = 47
            · rw [if_neg (fun z => z h6)]
              have hlt3 := nx_lt h6 (by decide)
              have hw := wd_n (n := n) (f := f) (p := r + 1) (by omega)
              by_cases h7 : ¬ wok n f (r + 1)
              · rw [if_pos h7]; exact hw
              · rw [if_neg h7]
                by_cases h8 : nx n f (r + 1 + wd n f (r + 1)) = 59
                · rw [if_neg (fun z => z h8)]
                  have := nx_lt h8 (by decide)
                  show r + 1 + wd n f (r + 1) + 1 ≤ n
                  omega
                · rw [if_pos h8]; exact hw
            · rw [if_pos h6]; exact h4'
          generalize rd n f r = RD at h5
          cases RD with
          | inl e => exact h5
          | inr q2 => exact h5
      · rw [if_pos h3]; exact h2'
  · rw [if_pos h1]; exact hp
/-- the cells of i grades -/
def gR (b : Nat) (Gs : Nat → ax_Gr) : Nat → List (Option ax_C)
  | 0 => []
  | i + 1 => gR b Gs i ++ gC (b + 4 * i) (Gs i).lim (Gs i).fr (Gs i).ce (Gs i).st (Gs i).dy 1
theorem gR_len (b : Nat) (Gs : Nat → ax_Gr) : ∀ i, (gR b Gs i).length = 4 * i := by
  intro i
  induction i with
  | zero => rfl
  | succ i ih =>
    show (gR b Gs i ++ gC _ _ _ _ _ _ _).length = _
    rw [List.length_append, ih]
    show 4 * i + 4 = 4 * (i + 1)
    omega
theorem gR_up (b : Nat) (Gs : Nat → ax_Gr) (G : ax_Gr) (i : Nat) : ∀ j, j ≤ i → gR b (va_up Gs i G) j = gR b Gs j := by
  intro j
  induction j with
  | zero => exact fun _ => rfl
  | succ j ih =>
    intro hj
    show gR b (va_up Gs i G) j ++ gC _ _ _ _ _ _ _ = _
    rw [ih (by omega), va_up_ne _ _ (by omega)]
    rfl
theorem gR_at (b : Nat) (Gs : Nat → ax_Gr) {j r : Nat} (hr : r < 4) : ∀ i, j < i → (gR b Gs i)[4 * j + r]? = (gC (b + 4 * j) (Gs j).lim (Gs j).fr (Gs j).ce (Gs j).st (Gs j).dy 1)[r]? := by
  intro i
  induction i with
  | zero => intro h; omega
  | succ i ih =>
    intro h
    show (gR b Gs i ++ gC _ _ _ _ _ _ _)[4 * j + r]? = _
    by_cases hj : j = i
    · subst hj
      rw [List.getElem?_append_right (by rw [gR_len]; omega), gR_len, show 4 * j + r - 4 * j = r by omega]
    · rw [List.getElem?_append_left (by rw [gR_len]; omega)]
      exact ih (by omega)
theorem gR_grade {Z : List (Option ax_C)} {b i k : Nat} {Gs : Nat → ax_Gr} (hk : k < i) (h1 : ∀ (r : Nat) (x : Option ax_C), (gR b Gs i)[r]? = some x → Z[b + r]? = some x) : GradeAt Z (b + 4 * k) (Gs k) := by
  have g : ∀ (r : Nat) (x : Option ax_C), r < 4 → (gC (b + 4 * k) (Gs k).lim (Gs k).fr (Gs k).ce (Gs k).st (Gs k).dy 1)[r]? = some x → Z[b + 4 * k + r]? = some x := by
    intro r x hr hx
    have := h1 (4 * k + r) x (by rw [gR_at b Gs hr i hk]; exact hx)
    rw [show b + (4 * k + r) = b + 4 * k + r by omega] at this
    exact this
  exact ⟨b + 4 * k + 1, b + 4 * k + 2, b + 4 * k + 3, 1, g 0 _ (by omega) rfl, g 1 _ (by omega) rfl, g 2 _ (by omega) rfl, g 3 _ (by omega) rfl⟩
/-- an offer's cells -/
def oX (b i : Nat) (gf : Nat → Option Nat) (Y : List (Option ax_C)) : List (Option ax_C) := ax_ob 4 [.ref (b + 1 + 40), .int (nI i)] :: ax_aG 4 gf :: Y
section ROF
variable {C : Nat → List Value → ax_H → ax_R → Prop} {M : ax_M} {Q : ax_R → Prop} {pc nxt tg : Nat} {lv lv' : ax_L} {st st' : List Value}
variable {L : Nat} {xs : Nat → Int32} {c : ax_St} {m : ax_Mo} {o : Nat → Int64} {P X : List (Option ax_C)} {u : Nat}
theorem w_aasP {n i v : Nat} {x : Int32} {f : Nat → Option Nat} {fs : List Value} (j : Nat) (hd : M.2.2.1.lookup pc = some (.aastore, nxt, tg)) (hc : X[j]? = some (some (.inl (4, n, .inr (.inr (.inr (.inr f))))))) (hx : x = nI i) (hl : i < n) (hn : n ≤ 1000000) (hv : (P ++ X)[v]? = some (some (.inr (3, fs)))) (k : ax_wp C M Q nxt lv st (ax_hp L xs c m o (P ++ X.set j (some (.inl (4, n, .inr (.inr (.inr (.inr (va_up f i (some (v + 40)))))))))), u)) : ax_wp C M Q pc lv (.ref (v + 40) :: .int x :: .ref (P.length + j + 40) :: st) (ax_hp L xs c m o (P ++ X), u) := by
  rw [← sa] at k
  exact w_aas hd (hp_at (ga hc)) (Or.inr rfl) hx hl hn (hp_at hv) k
theorem r_Of_init : ax_run m_Of_init [.ref (P.length + 0 + 40)] (ax_hp L xs c m o (P ++ [ax_ob 4 (ax_dfl 4)]), u) (.inl none, (ax_hp L xs c m o (P ++ oX P.length 0 (fun _ => none) []), u + 4)) := by
  (refine ax_run_T (ax_T_of M_Of_init rfl (Nat.le_of_ble_eq_true rfl) ?_))
  (repeat (first | refine w_iadd1 rfl ?_ | refine w_isub1 rfl ?_ | refine w_iinc1 rfl rfl ?_ | refine w_s rfl rfl ?_ | refine w_get rfl rfl rfl rfl ?_ | refine w_nnl rfl ?_ | refine w_nnlR rfl ?_ | refine w_nul rfl ?_ | refine w_nulR rfl ?_ | refine w_ldc rfl rfl ?_ | refine w_ldc2 rfl rfl ?_ | refine w_put rfl rfl rfl (Nat.le_of_ble_eq_true rfl) (Or.inl rfl) rfl rfl ?_))
  refine w_oi rfl (by decide) (Nat.le_of_ble_eq_true rfl) ?_
  (repeat (first | refine w_iadd1 rfl ?_ | refine w_isub1 rfl ?_ | refine w_iinc1 rfl rfl ?_ | refine w_s rfl rfl ?_ | refine w_get rfl rfl rfl rfl ?_ | refine w_nnl rfl ?_ | refine w_nnlR rfl ?_ | refine w_nul rfl ?_ | refine w_nulR rfl ?_ | refine w_ldc rfl rfl ?_ | refine w_ldc2 rfl rfl ?_ | refine w_put rfl rfl rfl (Nat.le_of_ble_eq_true rfl) (Or.inl rfl) rfl rfl ?_))
  refine w_newq rfl rfl (by decide) (by decide) ?_
  have e1 : (ax_hp L xs c m o (P ++ [ax_ob 4 (ax_dfl 4)])).length = P.length + 1 + 40 := by
    show (P ++ [ax_ob 4 (ax_dfl 4)]).length + 40 = _
    rw [List.length_append]
    rfl
  have e2 : ax_hp L xs c m o (P ++ [ax_ob 4 (ax_dfl 4)]) ++ [some (.inl (4, (Int32.ofInt 4).toNatClampNeg, ax_blank 4))] = ax_hp L xs c m o (P ++ [ax_ob 4 (ax_dfl 4), ax_aG 4 (fun _ => none)]) := by
    show ax_hp L xs c m o (P ++ [_] ++ [_]) = _
    rw [List.append_assoc]
    rfl
  rw [e1, e2]
  refine w_putP 0 rfl rfl rfl (Nat.le_of_ble_eq_true rfl) (Or.inr ⟨rfl, rfl⟩) rfl rfl ?_
  refine w_vret rfl rfl ?_
  rfl
theorem r_Of_add1 {i v : Nat} {gf : Nat → Option Nat} {Y : List (Option ax_C)} {fs : List Value} (hi : i < 4) (hv : (P ++ oX P.length i gf Y)[v]? = some (some (.inr (3, fs)))) : ax_run m_Of_add [.ref (P.length + 0 + 40), .ref (v + 40)] (ax_hp L xs c m o (P ++ oX P.length i gf Y), u) (.inl (some (.int (Int32.ofInt 1))), (ax_hp L xs c m o (P ++ oX P.length (i + 1) (va_up gf i (some (v + 40))) Y), u)) := by
  (refine ax_run_T (ax_T_of M_Of_add rfl (Nat.le_of_ble_eq_true rfl) ?_))
  (repeat (first | refine w_iadd1 rfl ?_ | refine w_isub1 rfl ?_ | refine w_iinc1 rfl rfl ?_ | refine w_s rfl rfl ?_ | refine w_get rfl rfl rfl rfl ?_ | refine w_nnl rfl ?_ | refine w_nnlR rfl ?_ | refine w_nul rfl ?_ | refine w_nulR rfl ?_ | refine w_ldc rfl rfl ?_ | refine w_ldc2 rfl rfl ?_ | refine w_put rfl rfl rfl (Nat.le_of_ble_eq_true rfl) (Or.inl rfl) rfl rfl ?_))
  refine w_getP 0 rfl rfl rfl rfl ?_
  (repeat (first | refine w_iadd1 rfl ?_ | refine w_isub1 rfl ?_ | refine w_iinc1 rfl rfl ?_ | refine w_s rfl rfl ?_ | refine w_get rfl rfl rfl rfl ?_ | refine w_nnl rfl ?_ | refine w_nnlR rfl ?_ | refine w_nul rfl ?_ | refine w_nulR rfl ?_ | refine w_ldc rfl rfl ?_ | refine w_ldc2 rfl rfl ?_ | refine w_put rfl rfl rfl (Nat.le_of_ble_eq_true rfl) (Or.inl rfl) rfl rfl ?_))
  refine w_if2 rfl (fun _ => ?_) (fun h5 => absurd ((cn_lt (a := i) (b := 4) (by omega) (by omega)).mpr hi) h5)
  (repeat (first | refine w_iadd1 rfl ?_ | refine w_isub1 rfl ?_ | refine w_iinc1 rfl rfl ?_ | refine w_s rfl rfl ?_ | refine w_get rfl rfl rfl rfl ?_ | refine w_nnl rfl ?_ | refine w_nnlR rfl ?_ | refine w_nul rfl ?_ | refine w_nulR rfl ?_ | refine w_ldc rfl rfl ?_ | refine w_ldc2 rfl rfl ?_ | refine w_put rfl rfl rfl (Nat.le_of_ble_eq_true rfl) (Or.inl rfl) rfl rfl ?_))
  refine w_getP 0 rfl rfl rfl rfl ?_
  (repeat (first | refine w_iadd1 rfl ?_ | refine w_isub1 rfl ?_ | refine w_iinc1 rfl rfl ?_ | refine w_s rfl rfl ?_ | refine w_get rfl rfl rfl rfl ?_ | refine w_nnl rfl ?_ | refine w_nnlR rfl ?_ | refine w_nul rfl ?_ | refine w_nulR rfl ?_ | refine w_ldc rfl rfl ?_ | refine w_ldc2 rfl rfl ?_ | refine w_put rfl rfl rfl (Nat.le_of_ble_eq_true rfl) (Or.inl rfl) rfl rfl ?_))
  refine w_getP 0 rfl rfl rfl rfl ?_
  (repeat (first | refine w_iadd1 rfl ?_ | refine w_isub1 rfl ?_ | refine w_iinc1 rfl rfl ?_ | refine w_s rfl rfl ?_ | refine w_get rfl rfl rfl rfl ?_ | refine w_nnl rfl ?_ | refine w_nnlR rfl ?_ | refine w_nul rfl ?_ | refine w_nulR rfl ?_ | refine w_ldc rfl rfl ?_ | refine w_ldc2 rfl rfl ?_ | refine w_put rfl rfl rfl (Nat.le_of_ble_eq_true rfl) (Or.inl rfl) rfl rfl ?_))
  refine w_aasP 1 rfl rfl rfl hi (by decide) hv ?_
  (repeat (first | refine w_iadd1 rfl ?_ | refine w_isub1 rfl ?_ | refine w_iinc1 rfl rfl ?_ | refine w_s rfl rfl ?_ | refine w_get rfl rfl rfl rfl ?_ | refine w_nnl rfl ?_ | refine w_nnlR rfl ?_ | refine w_nul rfl ?_ | refine w_nulR rfl ?_ | refine w_ldc rfl rfl ?_ | refine w_ldc2 rfl rfl ?_ | refine w_put rfl rfl rfl (Nat.le_of_ble_eq_true rfl) (Or.inl rfl) rfl rfl ?_))
  refine w_getP 0 rfl rfl rfl rfl ?_
  (repeat (first | refine w_iadd1 rfl ?_ | refine w_isub1 rfl ?_ | refine w_iinc1 rfl rfl ?_ | refine w_s rfl rfl ?_ | refine w_get rfl rfl rfl rfl ?_ | refine w_nnl rfl ?_ | refine w_nnlR rfl ?_ | refine w_nul rfl ?_ | refine w_nulR rfl ?_ | refine w_ldc rfl rfl ?_ | refine w_ldc2 rfl rfl ?_ | refine w_put rfl rfl rfl (Nat.le_of_ble_eq_true rfl) (Or.inl rfl) rfl rfl ?_))
  refine w_putP 0 rfl rfl rfl (Nat.le_of_ble_eq_true rfl) (Or.inl rfl) rfl rfl ?_
  (repeat (first | refine w_iadd1 rfl ?_ | refine w_isub1 rfl ?_ | refine w_iinc1 rfl rfl ?_ | refine w_s rfl rfl ?_ | refine w_get rfl rfl rfl rfl ?_ | refine w_nnl rfl ?_ | refine w_nnlR rfl ?_ | refine w_nul rfl ?_ | refine w_nulR rfl ?_ | refine w_ldc rfl rfl ?_ | refine w_ldc2 rfl rfl ?_ | refine w_put rfl rfl rfl (Nat.le_of_ble_eq_true rfl) (Or.inl rfl) rfl rfl ?_))
  (refine w_iret rfl rfl rfl ?_)
  rfl
theorem r_Of_add0 {v : Nat} {gf : Nat → Option Nat} {Y : List (Option ax_C)} : ax_run m_Of_add [.ref (P.length + 0 + 40), .ref (v + 40)] (ax_hp L xs c m o (P ++ oX P.length 4 gf Y), u) (.inl (some (.int (Int32.ofInt 0))), (ax_hp L xs c m o (P ++ oX P.length 4 gf Y), u)) := by
  (refine ax_run_T (ax_T_of M_Of_add rfl (Nat.le_of_ble_eq_true rfl) ?_))
  (repeat (first | refine w_iadd1 rfl ?_ | refine w_isub1 rfl ?_ | refine w_iinc1 rfl rfl ?_ | refine w_s rfl rfl ?_ | refine w_get rfl rfl rfl rfl ?_ | refine w_nnl rfl ?_ | refine w_nnlR rfl ?_ | refine w_nul rfl ?_ | refine w_nulR rfl ?_ | refine w_ldc rfl rfl ?_ | refine w_ldc2 rfl rfl ?_ | refine w_put rfl rfl rfl (Nat.le_of_ble_eq_true rfl) (Or.inl rfl) rfl rfl ?_))
  refine w_getP 0 rfl rfl rfl rfl ?_
  (repeat (first | refine w_iadd1 rfl ?_ | refine w_isub1 rfl ?_ | refine w_iinc1 rfl rfl ?_ | refine w_s rfl rfl ?_ | refine w_get rfl rfl rfl rfl ?_ | refine w_nnl rfl ?_ | refine w_nnlR rfl ?_ | refine w_nul rfl ?_ | refine w_nulR rfl ?_ | refine w_ldc rfl rfl ?_ | refine w_ldc2 rfl rfl ?_ | refine w_put rfl rfl rfl (Nat.le_of_ble_eq_true rfl) (Or.inl rfl) rfl rfl ?_))
  refine w_if2 rfl (fun h5 => absurd h5 (by decide)) (fun _ => ?_)
  (repeat (first | refine w_iadd1 rfl ?_ | refine w_isub1 rfl ?_ | refine w_iinc1 rfl rfl ?_ | refine w_s rfl rfl ?_ | refine w_get rfl rfl rfl rfl ?_ | refine w_nnl rfl ?_ | refine w_nnlR rfl ?_ | refine w_nul rfl ?_ | refine w_nulR rfl ?_ | refine w_ldc rfl rfl ?_ | refine w_ldc2 rfl rfl ?_ | refine w_put rfl rfl rfl (Nat.le_of_ble_eq_true rfl) (Or.inl rfl) rfl rfl ?_))
  (refine w_iret rfl rfl rfl ?_)
  rfl
end ROF
/-- how the reading of an offer ends -/
def QO (L : Nat) (xs : Nat → Int32) (c : ax_St) (m : ax_Mo) (o : Nat → Int64) (P : List (Option ax_C)) (u : Nat) (q : Nat ⊕ (Nat × (Nat → ax_Rw))) (r : ax_R) : Prop := match q with
  | .inl e => ∃ (X : List (Option ax_C)) (u' : Nat), r = (.inl (some .null), (ax_hp L xs (ax_St.u_pl c e) m o (P ++ X), u')) ∧ X.length ≤ 22 ∧ u' ≤ u + 106
  | .inr (n, ds) => ∃ (X : List (Option ax_C)) (u' t : Nat) (F : ax_Of), r = (.inl (some (.ref (P.length + 0 + 40))), (ax_hp L xs (ax_St.u_pl c t) m o (P ++ X), u')) ∧ X.length ≤ 22 ∧ u' ≤ u + 106 ∧ F.n = n ∧ 1 ≤ n ∧ n ≤ 4 ∧ OfferAt (P ++ X) P.length F ∧ (∃ fs, X[0]? = some (some (.inr (4, fs)))) ∧ ∀ j, j < n → gok (ds j) ∧ GM (F.g j) (ds j)
section ROG
variable {L : Nat} {xs : Nat → Int32} {c : ax_St} {m : ax_Mo} {o : Nat → Int64} {P : List (Option ax_C)} {u : Nat}
theorem oX_len (b i : Nat) (gf : Nat → Option Nat) (B : Nat) (Gs : Nat → ax_Gr) (k : Nat) : (P ++ oX b i gf (gR B Gs k)).length = P.length + 2 + 4 * k := by
  rw [List.length_append]
  show P.length + ((gR B Gs k).length + 1 + 1) = _
  rw [gR_len]
  omega
theorem r_readOffer (hn : c.tl ≤ 400) (p : Nat) (hp : p ≤ c.tl) (ds0 : Nat → ax_Rw) :
    ax_T m_Tx_readOffer [.ref 2] (ax_hp L xs (ax_St.u_pl c p) m o P, u) (QO L xs c m o P u (ro c.tl c.ch 5 0 p ds0)) := by
  have lp : ∀ (k i p : Nat) (ds : Nat → ax_Rw) (Gs : Nat → ax_Gr) (gf : Nat → Option Nat), i + k = 5 → i ≤ 4 → p ≤ c.tl → (∀ j, j < i → gok (ds j) ∧ GM (Gs j) (ds j)) → (∀ j, j < i → gf j = some (P.length + 2 + 4 * j + 40)) → ax_wp ax_run M_Tx_readOffer (QO L xs c m o P u (ro c.tl c.ch k i p ds)) 10 [(0, .ref 2), (1, .ref (P.length + 0 + 40)), (2, .int (nI i))] [] (ax_hp L xs (ax_St.u_pl c p) m o (P ++ oX P.length i gf (gR (P.length + 2) Gs i)), u + 6 + 20 * i) := by
    intro k
    induction k with
    | zero => intro i p ds Gs gf h1 h2; omega
    | succ k ih =>
      intro i p ds Gs gf h1 h2 hp hds hgf
      have hlen := oX_len (P := P) P.length i gf (P.length + 2) Gs i
      (repeat (first | refine w_iadd1 rfl ?_ | refine w_isub1 rfl ?_ | refine w_iinc1 rfl rfl ?_ | refine w_s rfl rfl ?_ | refine w_get rfl rfl rfl rfl ?_ | refine w_nnl rfl ?_ | refine w_nnlR rfl ?_ | refine w_nul rfl ?_ | refine w_nulR rfl ?_ | refine w_ldc rfl rfl ?_ | refine w_ldc2 rfl rfl ?_ | refine w_put rfl rfl rfl (Nat.le_of_ble_eq_true rfl) (Or.inl rfl) rfl rfl ?_))
      refine w_if2 rfl (fun h5 => ?_) (fun _ => ?_)
      · have h6 := Int32.lt_iff_toInt_lt.mp (show Int32.ofInt 4 < nI i from h5)
        rw [q_nI' (by omega)] at h6
        have h7 : (4 : Int) < i := h6
        omega
      (repeat (first | refine w_iadd1 rfl ?_ | refine w_isub1 rfl ?_ | refine w_iinc1 rfl rfl ?_ | refine w_s rfl rfl ?_ | refine w_get rfl rfl rfl rfl ?_ | refine w_nnl rfl ?_ | refine w_nnlR rfl ?_ | refine w_nul rfl ?_ | refine w_nulR rfl ?_ | refine w_ldc rfl rfl ?_ | refine w_ldc2 rfl rfl ?_ | refine w_put rfl rfl rfl (Nat.le_of_ble_eq_true rfl) (Or.inl rfl) rfl rfl ?_))
      obtain ⟨r1, hr1, hq⟩ := r_readGrade (L := L) (xs := xs) (c := c) (m := m) (o := o) (P := P ++ oX P.length i gf (gR (P.length + 2) Gs i)) (u := u + 6 + 20 * i) hn p hp
      have hle := rg_le c.tl c.ch p hp
      show ax_wp _ _ (QO L xs c m o P u (match rg c.tl c.ch p with | .inl e => .inl e | .inr (t, d) => if ¬ (gok d ∧ i < 4) then .inl p else if c.tl ≤ t then .inr (i + 1, va_up ds i d) else ro c.tl c.ch k (i + 1) t (va_up ds i d))) _ _ _ _
      generalize rg c.tl c.ch p = RG at hq hle
      cases RG with
      | inl e =>
        obtain ⟨X', u', rfl, hX', hu'⟩ := hq
        (refine w_cv rfl rfl rfl rfl (by exact Nat.le_of_ble_eq_true rfl) (by exact Nat.le_of_ble_eq_true rfl) hr1 ?_; dsimp only [Option.toList, List.drop, List.cons_append, List.nil_append])
        (repeat (first | refine w_iadd1 rfl ?_ | refine w_isub1 rfl ?_ | refine w_iinc1 rfl rfl ?_ | refine w_s rfl rfl ?_ | refine w_get rfl rfl rfl rfl ?_ | refine w_nnl rfl ?_ | refine w_nnlR rfl ?_ | refine w_nul rfl ?_ | refine w_nulR rfl ?_ | refine w_ldc rfl rfl ?_ | refine w_ldc2 rfl rfl ?_ | refine w_put rfl rfl rfl (Nat.le_of_ble_eq_true rfl) (Or.inl rfl) rfl rfl ?_))
        refine w_aret rfl rfl rfl ⟨oX P.length i gf (gR (P.length + 2) Gs i) ++ X', u', by rw [List.append_assoc], ?_, by omega⟩
        rw [List.length_append]
        rw [List.length_append] at hlen
        omega
      | inr td =>
        obtain ⟨t, d⟩ := td
        obtain ⟨lim, fr, ce, s, dy, can, rfl, hcan, hGM⟩ := hq
        have hle' : t ≤ c.tl := hle
        show ax_wp _ _ (QO L xs c m o P u (if ¬ (gok d ∧ i < 4) then .inl p else if c.tl ≤ t then .inr (i + 1, va_up ds i d) else ro c.tl c.ch k (i + 1) t (va_up ds i d))) _ _ _ _
        (refine w_cv rfl rfl rfl rfl (by exact Nat.le_of_ble_eq_true rfl) (by exact Nat.le_of_ble_eq_true rfl) hr1 ?_; dsimp only [Option.toList, List.drop, List.cons_append, List.nil_append])
        (repeat (first | refine w_iadd1 rfl ?_ | refine w_isub1 rfl ?_ | refine w_iinc1 rfl rfl ?_ | refine w_s rfl rfl ?_ | refine w_get rfl rfl rfl rfl ?_ | refine w_nnl rfl ?_ | refine w_nnlR rfl ?_ | refine w_nul rfl ?_ | refine w_nulR rfl ?_ | refine w_ldc rfl rfl ?_ | refine w_ldc2 rfl rfl ?_ | refine w_put rfl rfl rfl (Nat.le_of_ble_eq_true rfl) (Or.inl rfl) rfl rfl ?_))
        refine w_getP (P := P ++ oX P.length i gf (gR (P.length + 2) Gs i)) 0 rfl rfl rfl rfl ?_
        have bad : ¬ (gok d ∧ i < 4) → ax_wp ax_run M_Tx_readOffer (QO L xs c m o P u (.inl p)) 50 [(0, .ref 2), (3, .int (nI p))] [] (ax_hp L xs (ax_St.u_pl c t) m o (P ++ oX P.length i gf (gR (P.length + 2) Gs i) ++ gC (P ++ oX P.length i gf (gR (P.length + 2) Gs i)).length lim fr ce s dy can), u + 6 + 20 * i + 20) := by
          intro _
          (repeat (first | refine w_iadd1 rfl ?_ | refine w_isub1 rfl ?_ | refine w_iinc1 rfl rfl ?_ | refine w_s rfl rfl ?_ | refine w_get rfl rfl rfl rfl ?_ | refine w_nnl rfl ?_ | refine w_nnlR rfl ?_ | refine w_nul rfl ?_ | refine w_nulR rfl ?_ | refine w_ldc rfl rfl ?_ | refine w_ldc2 rfl rfl ?_ | refine w_put rfl rfl rfl (Nat.le_of_ble_eq_true rfl) (Or.inl rfl) rfl rfl ?_))
          refine w_aret rfl rfl rfl ⟨oX P.length i gf (gR (P.length + 2) Gs i) ++ gC (P ++ oX P.length i gf (gR (P.length + 2) Gs i)).length lim fr ce s dy can, u + 6 + 20 * i + 20, by rw [List.append_assoc]; rfl, ?_, by omega⟩
          rw [List.length_append]
          rw [List.length_append] at hlen
          show _ + 4 ≤ 22
          omega
        by_cases hg : gok d
        · have hcan1 : can = Int32.ofInt 1 := by rw [hcan, bI_t hg]
          refine w_if1 rfl (fun h5 => absurd h5 (by rw [hcan1]; exact k_eq1)) (fun _ => ?_)
          (repeat (first | refine w_iadd1 rfl ?_ | refine w_isub1 rfl ?_ | refine w_iinc1 rfl rfl ?_ | refine w_s rfl rfl ?_ | refine w_get rfl rfl rfl rfl ?_ | refine w_nnl rfl ?_ | refine w_nnlR rfl ?_ | refine w_nul rfl ?_ | refine w_nulR rfl ?_ | refine w_ldc rfl rfl ?_ | refine w_ldc2 rfl rfl ?_ | refine w_put rfl rfl rfl (Nat.le_of_ble_eq_true rfl) (Or.inl rfl) rfl rfl ?_))
          by_cases h4 : i < 4
          · rw [if_neg (fun z => z ⟨hg, h4⟩)]
            have hpool : P ++ oX P.length i gf (gR (P.length + 2) Gs i) ++ gC (P ++ oX P.length i gf (gR (P.length + 2) Gs i)).length lim fr ce s dy can = P ++ oX P.length i gf (gR (P.length + 2) (va_up Gs i ⟨lim, fr, ce, s, dy⟩) (i + 1)) := by
              rw [List.append_assoc, hlen, hcan1]
              show P ++ (oX P.length i gf (gR (P.length + 2) Gs i ++ _)) = P ++ oX P.length i gf (gR _ _ i ++ gC _ _ _ _ _ _ _)
              rw [gR_up _ _ _ _ _ (Nat.le_refl _), va_up_self]
              rfl
            rw [hpool, hlen]
            have hx : (P ++ oX P.length i gf (gR (P.length + 2) (va_up Gs i ⟨lim, fr, ce, s, dy⟩) (i + 1)))[P.length + (4 * i + 0 + 2)]? = some (ax_ob 3 [.ref (P.length + 2 + 4 * i + 1 + 40), .ref (P.length + 2 + 4 * i + 2 + 40), .ref (P.length + 2 + 4 * i + 3 + 40), .int (nI s), .int dy, .int 1]) := by
              refine ga ?_
              show (gR (P.length + 2) (va_up Gs i ⟨lim, fr, ce, s, dy⟩) (i + 1))[4 * i + 0]? = _
              rw [gR_at _ _ (by omega) (i + 1) (by omega), va_up_self]
              rfl
            rw [show P.length + (4 * i + 0 + 2) = P.length + 2 + 4 * i by omega] at hx
            refine w_cv rfl rfl rfl (hp_at (ga (j := 0) rfl)) (Nat.le_of_ble_eq_true rfl) (Nat.le_of_ble_eq_true rfl) (r_Of_add1 (c := (ax_St.u_pl c t)) (P := P) (v := P.length + 2 + 4 * i) h4 hx) ?_
            dsimp only [Option.toList, List.drop, List.cons_append, List.nil_append]
            refine w_if1 rfl (fun _ => ?_) (fun h5 => absurd k_ne1 h5)
            (repeat (first | refine w_iadd1 rfl ?_ | refine w_isub1 rfl ?_ | refine w_iinc1 rfl rfl ?_ | refine w_s rfl rfl ?_ | refine w_get rfl rfl rfl rfl ?_ | refine w_nnl rfl ?_ | refine w_nnlR rfl ?_ | refine w_nul rfl ?_ | refine w_nulR rfl ?_ | refine w_ldc rfl rfl ?_ | refine w_ldc2 rfl rfl ?_ | refine w_put rfl rfl rfl (Nat.le_of_ble_eq_true rfl) (Or.inl rfl) rfl rfl ?_))
            have hds' : ∀ j, j < i + 1 → gok (va_up ds i d j) ∧ GM (va_up Gs i ⟨lim, fr, ce, s, dy⟩ j) (va_up ds i d j) := by
              intro j hj
              by_cases hji : j = i
              · subst hji
                rw [va_up_self, va_up_self]
                exact ⟨hg, hGM hg⟩
              · rw [va_up_ne _ _ hji, va_up_ne _ _ hji]
                exact hds j (by omega)
            have hgf' : ∀ j, j < i + 1 → va_up gf i (some (P.length + 2 + 4 * i + 40)) j = some (P.length + 2 + 4 * j + 40) := by
              intro j hj
              by_cases hji : j = i
              · subst hji
                rw [va_up_self]
              · rw [va_up_ne _ _ hji]
                exact hgf j (by omega)
            by_cases hend : c.tl ≤ t
            · rw [if_pos hend]
              refine w_if2 rfl (fun h5 => absurd ((cn_lt (a := t) (b := c.tl) (by omega) (by omega)).mp h5) (by omega)) (fun _ => ?_)
              (repeat (first | refine w_iadd1 rfl ?_ | refine w_isub1 rfl ?_ | refine w_iinc1 rfl rfl ?_ | refine w_s rfl rfl ?_ | refine w_get rfl rfl rfl rfl ?_ | refine w_nnl rfl ?_ | refine w_nnlR rfl ?_ | refine w_nul rfl ?_ | refine w_nulR rfl ?_ | refine w_ldc rfl rfl ?_ | refine w_ldc2 rfl rfl ?_ | refine w_put rfl rfl rfl (Nat.le_of_ble_eq_true rfl) (Or.inl rfl) rfl rfl ?_))
              refine w_aret rfl rfl rfl ⟨_, u + 6 + 20 * i + 20, t, ⟨i + 1, va_up Gs i ⟨lim, fr, ce, s, dy⟩⟩, rfl, ?_, by omega, rfl, by omega, by omega, ⟨P.length + 1, _, ga (j := 0) rfl, ga (j := 1) rfl, fun k hk => ⟨P.length + 2 + 4 * k, hgf' k hk, gR_grade hk (fun r x hx => ?_)⟩⟩, ⟨_, rfl⟩, hds'⟩
              · have := oX_len (P := P) P.length (i + 1) (va_up gf i (some (P.length + 2 + 4 * i + 40))) (P.length + 2) (va_up Gs i ⟨lim, fr, ce, s, dy⟩) (i + 1)
                rw [List.length_append] at this
                omega
              · rw [show P.length + 2 + r = P.length + (r + 2) by omega]
                exact ga (j := r + 2) hx
            · rw [if_neg hend]
              refine w_if2 rfl (fun _ => ?_) (fun h5 => absurd ((cn_lt (a := t) (b := c.tl) (by omega) (by omega)).mpr (by omega)) h5)
              (repeat ((fail_if_success (show ax_wp _ _ _ 10 _ _ _)); (first | refine w_iadd1 rfl ?_ | refine w_isub1 rfl ?_ | refine w_iinc1 rfl rfl ?_ | refine w_s rfl rfl ?_ | refine w_get rfl rfl rfl rfl ?_ | refine w_nnl rfl ?_ | refine w_nnlR rfl ?_ | refine w_nul rfl ?_ | refine w_nulR rfl ?_ | refine w_ldc rfl rfl ?_ | refine w_ldc2 rfl rfl ?_ | refine w_put rfl rfl rfl (Nat.le_of_ble_eq_true rfl) (Or.inl rfl) rfl rfl ?_)))
              have := ih (i + 1) t (va_up ds i d) (va_up Gs i ⟨lim, fr, ce, s, dy⟩) (va_up gf i (some (P.length + 2 + 4 * i + 40))) (by omega) (by omega) (by omega) hds' hgf'
              rw [show u + 6 + 20 * (i + 1) = u + 6 + 20 * i + 20 by omega] at this
              exact w_lv this rfl ⟨rfl, rfl, rfl, trivial⟩
          · rw [if_pos (fun z => h4 z.2)]
            have hi4 : i = 4 := by omega
            subst hi4
            have hadd := r_Of_add0 (L := L) (xs := xs) (c := (ax_St.u_pl c t)) (m := m) (o := o) (P := P) (u := u + 6 + 20 * 4 + 20) (v := (P ++ oX P.length 4 gf (gR (P.length + 2) Gs 4)).length + 0) (gf := gf) (Y := gR (P.length + 2) Gs 4 ++ gC (P ++ oX P.length 4 gf (gR (P.length + 2) Gs 4)).length lim fr ce s dy can)
            have hpool : P ++ oX P.length 4 gf (gR (P.length + 2) Gs 4) ++ gC (P ++ oX P.length 4 gf (gR (P.length + 2) Gs 4)).length lim fr ce s dy can = P ++ oX P.length 4 gf (gR (P.length + 2) Gs 4 ++ gC (P ++ oX P.length 4 gf (gR (P.length + 2) Gs 4)).length lim fr ce s dy can) := by
              rw [List.append_assoc]
              rfl
            have hbad := bad (fun z => h4 z.2)
            rw [hpool] at hbad ⊢
            refine w_cv rfl rfl rfl (hp_at (ga (j := 0) rfl)) (Nat.le_of_ble_eq_true rfl) (Nat.le_of_ble_eq_true rfl) hadd ?_
            dsimp only [Option.toList, List.drop, List.cons_append, List.nil_append]
            refine w_if1 rfl (fun h5 => absurd rfl h5) (fun _ => ?_)
            exact w_lv hbad rfl ⟨rfl, rfl, trivial⟩
        · rw [if_pos (fun z => hg z.1)]
          have hcan0 : can = Int32.ofInt 0 := by rw [hcan, bI_f hg]
          refine w_if1 rfl (fun _ => ?_) (fun h5 => absurd (by rw [hcan0]; rfl) h5)
          exact w_lv (bad (fun z => hg z.1)) rfl ⟨rfl, rfl, trivial⟩
  (refine ax_T_of M_Tx_readOffer rfl (Nat.le_of_ble_eq_true rfl) ?_)
  refine w_new rfl rfl ?_
  have e1 : (ax_hp L xs (ax_St.u_pl c p) m o P).length = P.length + 0 + 40 := rfl
  have e2 : ax_hp L xs (ax_St.u_pl c p) m o P ++ [some (.inr (4, ax_dfl 4))] = ax_hp L xs (ax_St.u_pl c p) m o (P ++ [ax_ob 4 (ax_dfl 4)]) := rfl
  show ax_wp _ _ _ _ _ [.ref (ax_hp L xs (ax_St.u_pl c p) m o P).length] (ax_hp L xs (ax_St.u_pl c p) m o P ++ [some (.inr (4, ax_dfl 4))], u + 2)
  rw [e1, e2]
  (repeat (first | refine w_iadd1 rfl ?_ | refine w_isub1 rfl ?_ | refine w_iinc1 rfl rfl ?_ | refine w_s rfl rfl ?_ | refine w_get rfl rfl rfl rfl ?_ | refine w_nnl rfl ?_ | refine w_nnlR rfl ?_ | refine w_nul rfl ?_ | refine w_nulR rfl ?_ | refine w_ldc rfl rfl ?_ | refine w_ldc2 rfl rfl ?_ | refine w_put rfl rfl rfl (Nat.le_of_ble_eq_true rfl) (Or.inl rfl) rfl rfl ?_))
  (refine w_ci rfl rfl rfl (by exact Nat.le_of_ble_eq_true rfl) (by exact Nat.le_of_ble_eq_true rfl) (r_Of_init (c := (ax_St.u_pl c p)) (P := P)) ?_; dsimp only [Option.toList, List.drop, List.cons_append, List.nil_append])
  (repeat ((fail_if_success (show ax_wp _ _ _ 10 _ _ _)); (first | refine w_iadd1 rfl ?_ | refine w_isub1 rfl ?_ | refine w_iinc1 rfl rfl ?_ | refine w_s rfl rfl ?_ | refine w_get rfl rfl rfl rfl ?_ | refine w_nnl rfl ?_ | refine w_nnlR rfl ?_ | refine w_nul rfl ?_ | refine w_nulR rfl ?_ | refine w_ldc rfl rfl ?_ | refine w_ldc2 rfl rfl ?_ | refine w_put rfl rfl rfl (Nat.le_of_ble_eq_true rfl) (Or.inl rfl) rfl rfl ?_)))
  exact w_lv (lp 5 0 p ds0 (fun _ => ⟨fun _ => 0, fun _ => 0, fun _ => 0, 0, 0⟩) (fun _ => none) (by omega) (by omega) hp (fun j hj => absurd hj (by omega)) (fun j hj => absurd hj (by omega))) rfl ⟨rfl, rfl, rfl, trivial⟩
end ROG
end
