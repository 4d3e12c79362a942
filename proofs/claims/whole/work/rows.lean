section
-- ===== PART A: goes FIRST, ahead of the names: the tables' words, and 'selects' of the private methods out of them =====
/-- a private method of a class that the tables say can be made, by its rows of tables_1 -/
def lw_okq (q : MethodName × Nat) : Prop := (q.1.cls ≠ "java/lang/invoke/MethodHandle" ∧ q.1.cls ≠ "java/lang/invoke/VarHandle") ∧ Cond.instantiable q.1.cls q.2 ∈ tables_1 ∧ Cond.privateMethod q.1 ∈ tables_1 ∧ Cond.instanceMethod q.1 ∈ tables_1
theorem lw_p0 : lw_okq (⟨"MakingLimits$Text", "passes", "(C)Z"⟩, 3) := ⟨⟨by decide +kernel, by decide +kernel⟩, List.mem_of_getElem? (i := 27) (by decide +kernel), List.mem_of_getElem? (i := 179) (by decide +kernel), List.mem_of_getElem? (i := 180) (by decide +kernel)⟩
theorem lw_p1 : lw_okq (⟨"MakingLimits$Text", "next", "()I"⟩, 3) := ⟨⟨by decide +kernel, by decide +kernel⟩, List.mem_of_getElem? (i := 27) (by decide +kernel), List.mem_of_getElem? (i := 183) (by decide +kernel), List.mem_of_getElem? (i := 184) (by decide +kernel)⟩
theorem lw_p2 : lw_okq (⟨"MakingLimits$Text", "readGrade", "()LMakingLimits$Grade;"⟩, 3) := ⟨⟨by decide +kernel, by decide +kernel⟩, List.mem_of_getElem? (i := 27) (by decide +kernel), List.mem_of_getElem? (i := 209) (by decide +kernel), List.mem_of_getElem? (i := 210) (by decide +kernel)⟩
theorem lw_p3 : lw_okq (⟨"MakingLimits$Text", "readLimits", "(LMakingLimits$Grade;)Z"⟩, 3) := ⟨⟨by decide +kernel, by decide +kernel⟩, List.mem_of_getElem? (i := 27) (by decide +kernel), List.mem_of_getElem? (i := 240) (by decide +kernel), List.mem_of_getElem? (i := 241) (by decide +kernel)⟩
theorem lw_p4 : lw_okq (⟨"MakingLimits$Text", "readWhole", "()I"⟩, 3) := ⟨⟨by decide +kernel, by decide +kernel⟩, List.mem_of_getElem? (i := 27) (by decide +kernel), List.mem_of_getElem? (i := 244) (by decide +kernel), List.mem_of_getElem? (i := 245) (by decide +kernel)⟩
theorem lw_p5 : lw_okq (⟨"MakingLimits$Text", "readSteps", "(LMakingLimits$Grade;)Z"⟩, 3) := ⟨⟨by decide +kernel, by decide +kernel⟩, List.mem_of_getElem? (i := 27) (by decide +kernel), List.mem_of_getElem? (i := 253) (by decide +kernel), List.mem_of_getElem? (i := 254) (by decide +kernel)⟩
theorem lw_p6 : lw_okq (⟨"MakingLimits$Text", "readDays", "(LMakingLimits$Grade;)Z"⟩, 3) := ⟨⟨by decide +kernel, by decide +kernel⟩, List.mem_of_getElem? (i := 27) (by decide +kernel), List.mem_of_getElem? (i := 261) (by decide +kernel), List.mem_of_getElem? (i := 262) (by decide +kernel)⟩
theorem lw_p7 : lw_okq (⟨"MakingLimits", "keepOffer", "(ILMakingLimits$Offer;)V"⟩, 8) := ⟨⟨by decide +kernel, by decide +kernel⟩, List.mem_of_getElem? (i := 19) (by decide +kernel), List.mem_of_getElem? (i := 277) (by decide +kernel), List.mem_of_getElem? (i := 278) (by decide +kernel)⟩
theorem lw_p8 : lw_okq (⟨"java/lang/Throwable", "fillInStackTrace", "(I)Ljava/lang/Throwable;"⟩, 6) := ⟨⟨by decide +kernel, by decide +kernel⟩, List.mem_of_getElem? (i := 361) (by decide +kernel), List.mem_of_getElem? (i := 359) (by decide +kernel), List.mem_of_getElem? (i := 360) (by decide +kernel)⟩
theorem lw_p9 : lw_okq (⟨"MakingLimits", "gradeOf", "(II)LMakingLimits$Grade;"⟩, 8) := ⟨⟨by decide +kernel, by decide +kernel⟩, List.mem_of_getElem? (i := 19) (by decide +kernel), List.mem_of_getElem? (i := 438) (by decide +kernel), List.mem_of_getElem? (i := 439) (by decide +kernel)⟩
theorem lw_p10 : lw_okq (⟨"MakingLimits", "offerOf", "(I)LMakingLimits$Offer;"⟩, 8) := ⟨⟨by decide +kernel, by decide +kernel⟩, List.mem_of_getElem? (i := 19) (by decide +kernel), List.mem_of_getElem? (i := 442) (by decide +kernel), List.mem_of_getElem? (i := 443) (by decide +kernel)⟩
theorem lw_p11 : lw_okq (⟨"MakingLimits$Cells", "units", "(II)J"⟩, 2) := ⟨⟨by decide +kernel, by decide +kernel⟩, List.mem_of_getElem? (i := 122) (by decide +kernel), List.mem_of_getElem? (i := 543) (by decide +kernel), List.mem_of_getElem? (i := 544) (by decide +kernel)⟩
theorem lw_p12 : lw_okq (⟨"MakingLimitsModel", "empty", "()V"⟩, 24) := ⟨⟨by decide +kernel, by decide +kernel⟩, List.mem_of_getElem? (i := 627) (by decide +kernel), List.mem_of_getElem? (i := 633) (by decide +kernel), List.mem_of_getElem? (i := 634) (by decide +kernel)⟩
theorem lw_p13 : lw_okq (⟨"MakingLimitsModel", "expect", "(I)V"⟩, 24) := ⟨⟨by decide +kernel, by decide +kernel⟩, List.mem_of_getElem? (i := 627) (by decide +kernel), List.mem_of_getElem? (i := 726) (by decide +kernel), List.mem_of_getElem? (i := 727) (by decide +kernel)⟩
theorem lw_p14 : lw_okq (⟨"MakingLimitsModel", "now", "()I"⟩, 24) := ⟨⟨by decide +kernel, by decide +kernel⟩, List.mem_of_getElem? (i := 627) (by decide +kernel), List.mem_of_getElem? (i := 730) (by decide +kernel), List.mem_of_getElem? (i := 731) (by decide +kernel)⟩
theorem lw_p15 : lw_okq (⟨"MakingLimitsModel", "isDigit", "()Z"⟩, 24) := ⟨⟨by decide +kernel, by decide +kernel⟩, List.mem_of_getElem? (i := 627) (by decide +kernel), List.mem_of_getElem? (i := 734) (by decide +kernel), List.mem_of_getElem? (i := 735) (by decide +kernel)⟩
def lw_privs_1 : List (MethodName × Nat) := [(⟨"MakingLimits$Text", "passes", "(C)Z"⟩, 3), (⟨"MakingLimits$Text", "next", "()I"⟩, 3), (⟨"MakingLimits$Text", "readGrade", "()LMakingLimits$Grade;"⟩, 3), (⟨"MakingLimits$Text", "readLimits", "(LMakingLimits$Grade;)Z"⟩, 3), (⟨"MakingLimits$Text", "readWhole", "()I"⟩, 3), (⟨"MakingLimits$Text", "readSteps", "(LMakingLimits$Grade;)Z"⟩, 3), (⟨"MakingLimits$Text", "readDays", "(LMakingLimits$Grade;)Z"⟩, 3), (⟨"MakingLimits", "keepOffer", "(ILMakingLimits$Offer;)V"⟩, 8), (⟨"java/lang/Throwable", "fillInStackTrace", "(I)Ljava/lang/Throwable;"⟩, 6), (⟨"MakingLimits", "gradeOf", "(II)LMakingLimits$Grade;"⟩, 8), (⟨"MakingLimits", "offerOf", "(I)LMakingLimits$Offer;"⟩, 8), (⟨"MakingLimits$Cells", "units", "(II)J"⟩, 2), (⟨"MakingLimitsModel", "empty", "()V"⟩, 24), (⟨"MakingLimitsModel", "expect", "(I)V"⟩, 24), (⟨"MakingLimitsModel", "now", "()I"⟩, 24), (⟨"MakingLimitsModel", "isDigit", "()Z"⟩, 24)]
theorem lw_r1 : ∀ q ∈ lw_privs_1, lw_okq q := List.forall_mem_cons.mpr ⟨lw_p0, List.forall_mem_cons.mpr ⟨lw_p1, List.forall_mem_cons.mpr ⟨lw_p2, List.forall_mem_cons.mpr ⟨lw_p3, List.forall_mem_cons.mpr ⟨lw_p4, List.forall_mem_cons.mpr ⟨lw_p5, List.forall_mem_cons.mpr ⟨lw_p6, List.forall_mem_cons.mpr ⟨lw_p7, List.forall_mem_cons.mpr ⟨lw_p8, List.forall_mem_cons.mpr ⟨lw_p9, List.forall_mem_cons.mpr ⟨lw_p10, List.forall_mem_cons.mpr ⟨lw_p11, List.forall_mem_cons.mpr ⟨lw_p12, List.forall_mem_cons.mpr ⟨lw_p13, List.forall_mem_cons.mpr ⟨lw_p14, List.forall_mem_cons.mpr ⟨lw_p15, fun _ h => absurd h List.not_mem_nil⟩⟩⟩⟩⟩⟩⟩⟩⟩⟩⟩⟩⟩⟩⟩⟩
theorem lw_p16 : lw_okq (⟨"MakingLimitsModel", "readClass", "(I)V"⟩, 24) := ⟨⟨by decide +kernel, by decide +kernel⟩, List.mem_of_getElem? (i := 627) (by decide +kernel), List.mem_of_getElem? (i := 738) (by decide +kernel), List.mem_of_getElem? (i := 739) (by decide +kernel)⟩
theorem lw_p17 : lw_okq (⟨"MakingLimitsModel", "whole", "()J"⟩, 24) := ⟨⟨by decide +kernel, by decide +kernel⟩, List.mem_of_getElem? (i := 627) (by decide +kernel), List.mem_of_getElem? (i := 745) (by decide +kernel), List.mem_of_getElem? (i := 746) (by decide +kernel)⟩
theorem lw_p18 : lw_okq (⟨"MakingLimitsModel", "copyClasses", "(II)V"⟩, 24) := ⟨⟨by decide +kernel, by decide +kernel⟩, List.mem_of_getElem? (i := 627) (by decide +kernel), List.mem_of_getElem? (i := 753) (by decide +kernel), List.mem_of_getElem? (i := 754) (by decide +kernel)⟩
theorem lw_p19 : lw_okq (⟨"MakingLimitsModel", "isClass", "(II)Z"⟩, 24) := ⟨⟨by decide +kernel, by decide +kernel⟩, List.mem_of_getElem? (i := 627) (by decide +kernel), List.mem_of_getElem? (i := 776) (by decide +kernel), List.mem_of_getElem? (i := 777) (by decide +kernel)⟩
theorem lw_p20 : lw_okq (⟨"MakingLimitsModel", "isMaker", "(I)Z"⟩, 24) := ⟨⟨by decide +kernel, by decide +kernel⟩, List.mem_of_getElem? (i := 627) (by decide +kernel), List.mem_of_getElem? (i := 780) (by decide +kernel), List.mem_of_getElem? (i := 781) (by decide +kernel)⟩
theorem lw_p21 : lw_okq (⟨"MakingLimitsModel", "beyond", "(III)J"⟩, 24) := ⟨⟨by decide +kernel, by decide +kernel⟩, List.mem_of_getElem? (i := 627) (by decide +kernel), List.mem_of_getElem? (i := 784) (by decide +kernel), List.mem_of_getElem? (i := 785) (by decide +kernel)⟩
theorem lw_p22 : lw_okq (⟨"MakingLimitsModel", "leastOf", "(I)I"⟩, 24) := ⟨⟨by decide +kernel, by decide +kernel⟩, List.mem_of_getElem? (i := 627) (by decide +kernel), List.mem_of_getElem? (i := 796) (by decide +kernel), List.mem_of_getElem? (i := 797) (by decide +kernel)⟩
theorem lw_p23 : lw_okq (⟨"MakingLimitsModel", "makes", "(II)Z"⟩, 24) := ⟨⟨by decide +kernel, by decide +kernel⟩, List.mem_of_getElem? (i := 627) (by decide +kernel), List.mem_of_getElem? (i := 800) (by decide +kernel), List.mem_of_getElem? (i := 801) (by decide +kernel)⟩
theorem lw_p24 : lw_okq (⟨"MakingLimitsModel", "priceOf", "(IIJ)J"⟩, 24) := ⟨⟨by decide +kernel, by decide +kernel⟩, List.mem_of_getElem? (i := 627) (by decide +kernel), List.mem_of_getElem? (i := 811) (by decide +kernel), List.mem_of_getElem? (i := 812) (by decide +kernel)⟩
def lw_privs_2 : List (MethodName × Nat) := [(⟨"MakingLimitsModel", "readClass", "(I)V"⟩, 24), (⟨"MakingLimitsModel", "whole", "()J"⟩, 24), (⟨"MakingLimitsModel", "copyClasses", "(II)V"⟩, 24), (⟨"MakingLimitsModel", "isClass", "(II)Z"⟩, 24), (⟨"MakingLimitsModel", "isMaker", "(I)Z"⟩, 24), (⟨"MakingLimitsModel", "beyond", "(III)J"⟩, 24), (⟨"MakingLimitsModel", "leastOf", "(I)I"⟩, 24), (⟨"MakingLimitsModel", "makes", "(II)Z"⟩, 24), (⟨"MakingLimitsModel", "priceOf", "(IIJ)J"⟩, 24)]
theorem lw_r2 : ∀ q ∈ lw_privs_2, lw_okq q := List.forall_mem_cons.mpr ⟨lw_p16, List.forall_mem_cons.mpr ⟨lw_p17, List.forall_mem_cons.mpr ⟨lw_p18, List.forall_mem_cons.mpr ⟨lw_p19, List.forall_mem_cons.mpr ⟨lw_p20, List.forall_mem_cons.mpr ⟨lw_p21, List.forall_mem_cons.mpr ⟨lw_p22, List.forall_mem_cons.mpr ⟨lw_p23, List.forall_mem_cons.mpr ⟨lw_p24, fun _ h => absurd h List.not_mem_nil⟩⟩⟩⟩⟩⟩⟩⟩⟩
def lw_privs : List (MethodName × Nat) := lw_privs_1 ++ (lw_privs_2)
def lw_tbl : List Cond := k2_sels lw_privs ++ tables_1
theorem lw_privs_ok : ∀ q ∈ lw_privs, lw_okq q := by
  show ∀ q ∈ lw_privs_1 ++ (lw_privs_2), lw_okq q
  exact List.forall_mem_append.mpr ⟨lw_r1, lw_r2⟩
end
section
/-! AN ABSTRACT MACHINE for the methods of this claim. Cells have numbers instead of addresses; a value is the machine's, with a cell's number for an address.
ax_C: an array (its kind, its contents) or an object (its class's place in 'classes', its fields); ax_H: the cells (none: one that nobody looks into), and how many slots were ever made. -/
abbrev ax_C : Type := (Nat × vp_A) ⊕ (Nat × List Value)
abbrev ax_H : Type := List (Option ax_C) × Nat
abbrev ax_L : Type := List (Nat × Value)
/-- an end: an answer, or the number of the class of what was thrown -/
abbrev ax_R : Type := (Option Value ⊕ Nat) × ax_H
/-- a method: its class's number, what it returns, its instructions (place, instruction, next place, place jumped to), its handlers, whether it makes an object -/
abbrev ax_M : Type := Nat × Option FieldType × List (Nat × Instr × Nat × Nat) × List (Nat × Nat × Nat × Nat) × Bool
end
section
/-! printed by wip/gen.py out of javap's listing: the classes, the tables of links, the methods -/
def ax_cn (k : Nat) : String := match k with
  | 0 => "MakingLimits"
  | 1 => "MakingLimits$Board"
  | 2 => "MakingLimits$Cells"
  | 3 => "MakingLimits$Grade"
  | 4 => "MakingLimits$Offer"
  | 5 => "MakingLimits$Orders"
  | 6 => "MakingLimits$Quotes"
  | 7 => "MakingLimits$Remarks"
  | 8 => "MakingLimits$Text"
  | 9 => "MakingLimitsModel"
  | 10 => "MakingLimitsLaw"
  | 11 => "java/util/Arrays"
  | _ => "java/lang/Math"
def ax_en (k : Nat) : String := match k with
  | 0 => "java/lang/IndexOutOfBoundsException"
  | _ => "java/lang/IllegalArgumentException"
def ax_F0 : u_T := fun k => match k with
  | 0 => ("MakingLimits", "text", "LMakingLimits$Text;", true)
  | 1 => ("MakingLimits", "offers", "[LMakingLimits$Offer;", true)
  | 2 => ("MakingLimits", "told", "I", false)
  | 3 => ("MakingLimits", "board", "LMakingLimits$Board;", true)
  | 4 => ("MakingLimits", "remarks", "LMakingLimits$Remarks;", true)
  | 5 => ("MakingLimits", "quotes", "LMakingLimits$Quotes;", true)
  | 6 => ("MakingLimits", "orders", "LMakingLimits$Orders;", true)
  | _ => ("MakingLimits", "cells", "LMakingLimits$Cells;", true)
def ax_t0 : Nat → FieldType := fun k => match k with
  | 0 => .object "MakingLimits$Text"
  | 1 => .array (.object "MakingLimits$Offer")
  | 2 => .int
  | 3 => .object "MakingLimits$Board"
  | 4 => .object "MakingLimits$Remarks"
  | 5 => .object "MakingLimits$Quotes"
  | 6 => .object "MakingLimits$Orders"
  | _ => .object "MakingLimits$Cells"
def ax_F1 : u_T := fun k => match k with
  | 0 => ("MakingLimits$Board", "kinds", "[I", true)
  | 1 => ("MakingLimits$Board", "values", "[I", true)
  | 2 => ("MakingLimits$Board", "layers", "[I", true)
  | 3 => ("MakingLimits$Board", "xs", "[I", true)
  | 4 => ("MakingLimits$Board", "ys", "[I", true)
  | _ => ("MakingLimits$Board", "count", "I", false)
def ax_t1 : Nat → FieldType := fun k => match k with
  | 0 => .array .int
  | 1 => .array .int
  | 2 => .array .int
  | 3 => .array .int
  | 4 => .array .int
  | _ => .int
def ax_F2 : u_T := fun k => match k with
  | 0 => ("MakingLimits$Cells", "aboves", "[I", true)
  | _ => ("MakingLimits$Cells", "belows", "[I", true)
def ax_t2 : Nat → FieldType := fun k => match k with
  | 0 => .array .int
  | _ => .array .int
def ax_F3 : u_T := fun k => match k with
  | 0 => ("MakingLimits$Grade", "limits", "[I", true)
  | 1 => ("MakingLimits$Grade", "froms", "[I", true)
  | 2 => ("MakingLimits$Grade", "cents", "[I", true)
  | 3 => ("MakingLimits$Grade", "steps", "I", false)
  | 4 => ("MakingLimits$Grade", "days", "I", false)
  | _ => ("MakingLimits$Grade", "canBe", "Z", false)
def ax_t3 : Nat → FieldType := fun k => match k with
  | 0 => .array .int
  | 1 => .array .int
  | 2 => .array .int
  | 3 => .int
  | 4 => .int
  | _ => .boolean
def ax_F4 : u_T := fun k => match k with
  | 0 => ("MakingLimits$Offer", "grades", "[LMakingLimits$Grade;", true)
  | _ => ("MakingLimits$Offer", "count", "I", false)
def ax_t4 : Nat → FieldType := fun k => match k with
  | 0 => .array (.object "MakingLimits$Grade")
  | _ => .int
def ax_F5 : u_T := fun k => match k with
  | 0 => ("MakingLimits$Orders", "parts", "[I", true)
  | _ => ("MakingLimits$Orders", "count", "I", false)
def ax_t5 : Nat → FieldType := fun k => match k with
  | 0 => .array .int
  | _ => .int
def ax_F6 : u_T := fun k => match k with
  | 0 => ("MakingLimits$Quotes", "makers", "[I", true)
  | 1 => ("MakingLimits$Quotes", "offers", "[LMakingLimits$Offer;", true)
  | 2 => ("MakingLimits$Quotes", "untils", "[J", true)
  | _ => ("MakingLimits$Quotes", "count", "I", false)
def ax_t6 : Nat → FieldType := fun k => match k with
  | 0 => .array .int
  | 1 => .array (.object "MakingLimits$Offer")
  | 2 => .array .long
  | _ => .int
def ax_F7 : u_T := fun k => match k with
  | 0 => ("MakingLimits$Remarks", "things", "[I", true)
  | 1 => ("MakingLimits$Remarks", "excesses", "[I", true)
  | _ => ("MakingLimits$Remarks", "count", "I", false)
def ax_t7 : Nat → FieldType := fun k => match k with
  | 0 => .array .int
  | 1 => .array .int
  | _ => .int
def ax_F8 : u_T := fun k => match k with
  | 0 => ("MakingLimits$Text", "characters", "[C", true)
  | 1 => ("MakingLimits$Text", "length", "I", false)
  | _ => ("MakingLimits$Text", "place", "I", false)
def ax_t8 : Nat → FieldType := fun k => match k with
  | 0 => .array .char
  | 1 => .int
  | _ => .int
def ax_F9 : u_T := fun k => match k with
  | 0 => ("MakingLimitsModel", "thrown", "I", false)
  | 1 => ("MakingLimitsModel", "units", "I", false)
  | 2 => ("MakingLimitsModel", "text", "[I", true)
  | 3 => ("MakingLimitsModel", "makers", "I", false)
  | 4 => ("MakingLimitsModel", "classes", "[I", true)
  | 5 => ("MakingLimitsModel", "numbers", "[J", true)
  | 6 => ("MakingLimitsModel", "things", "I", false)
  | 7 => ("MakingLimitsModel", "kinds", "[I", true)
  | 8 => ("MakingLimitsModel", "values", "[J", true)
  | 9 => ("MakingLimitsModel", "layers", "[I", true)
  | 10 => ("MakingLimitsModel", "x", "[J", true)
  | 11 => ("MakingLimitsModel", "y", "[J", true)
  | 12 => ("MakingLimitsModel", "remarks", "I", false)
  | 13 => ("MakingLimitsModel", "remarkOf", "[I", true)
  | 14 => ("MakingLimitsModel", "excess", "[J", true)
  | 15 => ("MakingLimitsModel", "quotes", "I", false)
  | 16 => ("MakingLimitsModel", "quoteMaker", "[I", true)
  | 17 => ("MakingLimitsModel", "until", "[J", true)
  | 18 => ("MakingLimitsModel", "orders", "I", false)
  | 19 => ("MakingLimitsModel", "orderRow", "[J", true)
  | 20 => ("MakingLimitsModel", "above", "[J", true)
  | 21 => ("MakingLimitsModel", "below", "[J", true)
  | 22 => ("MakingLimitsModel", "at", "I", false)
  | _ => ("MakingLimitsModel", "wrong", "I", false)
def ax_t9 : Nat → FieldType := fun k => match k with
  | 0 => .int
  | 1 => .int
  | 2 => .array .int
  | 3 => .int
  | 4 => .array .int
  | 5 => .array .long
  | 6 => .int
  | 7 => .array .int
  | 8 => .array .long
  | 9 => .array .int
  | 10 => .array .long
  | 11 => .array .long
  | 12 => .int
  | 13 => .array .int
  | 14 => .array .long
  | 15 => .int
  | 16 => .array .int
  | 17 => .array .long
  | 18 => .int
  | 19 => .array .long
  | 20 => .array .long
  | 21 => .array .long
  | 22 => .int
  | _ => .int
abbrev classes : List vw_C := [("MakingLimits", ax_F0, 8), ("MakingLimits$Board", ax_F1, 6), ("MakingLimits$Cells", ax_F2, 2), ("MakingLimits$Grade", ax_F3, 6), ("MakingLimits$Offer", ax_F4, 2), ("MakingLimits$Orders", ax_F5, 2), ("MakingLimits$Quotes", ax_F6, 4), ("MakingLimits$Remarks", ax_F7, 3), ("MakingLimits$Text", ax_F8, 3), ("MakingLimitsModel", ax_F9, 24)]
def ax_ty (ci : Nat) : Nat → FieldType := match ci with
  | 0 => ax_t0
  | 1 => ax_t1
  | 2 => ax_t2
  | 3 => ax_t3
  | 4 => ax_t4
  | 5 => ax_t5
  | 6 => ax_t6
  | 7 => ax_t7
  | 8 => ax_t8
  | _ => ax_t9
def ax_dfl (ci : Nat) : List Value := match ci with
  | 0 => [.null, .null, .int 0, .null, .null, .null, .null, .null]
  | 1 => [.null, .null, .null, .null, .null, .int 0]
  | 2 => [.null, .null]
  | 3 => [.null, .null, .null, .int 0, .int 0, .int 0]
  | 4 => [.null, .int 0]
  | 5 => [.null, .int 0]
  | 6 => [.null, .null, .null, .int 0]
  | 7 => [.null, .null, .int 0]
  | 8 => [.null, .int 0, .int 0]
  | _ => [.int 0, .int 0, .null, .int 0, .null, .null, .int 0, .null, .null, .null, .null, .null, .int 0, .null, .null, .int 0, .null, .null, .int 0, .null, .null, .null, .int 0, .int 0]
def ax_fin (ci k : Nat) : Bool := match ci, k with
  | 0, 0 => true
  | 0, 1 => true
  | 0, 3 => true
  | 0, 4 => true
  | 0, 5 => true
  | 0, 6 => true
  | 0, 7 => true
  | 1, 0 => true
  | 1, 1 => true
  | 1, 2 => true
  | 1, 3 => true
  | 1, 4 => true
  | 2, 0 => true
  | 2, 1 => true
  | 3, 0 => true
  | 3, 1 => true
  | 3, 2 => true
  | 4, 0 => true
  | 5, 0 => true
  | 6, 0 => true
  | 6, 1 => true
  | 6, 2 => true
  | 7, 0 => true
  | 7, 1 => true
  | 8, 0 => true
  | 9, 2 => true
  | 9, 4 => true
  | 9, 5 => true
  | 9, 7 => true
  | 9, 8 => true
  | 9, 9 => true
  | 9, 10 => true
  | 9, 11 => true
  | 9, 13 => true
  | 9, 14 => true
  | 9, 16 => true
  | 9, 17 => true
  | 9, 19 => true
  | 9, 20 => true
  | 9, 21 => true
  | _, _ => false
def ax_ak : ArrayType → Option Nat
  | .int => some 0
  | .long => some 1
  | .char => some 2
  | _ => none
/-- the class whose objects an array of references holds -/
def ax_cmp (k : Nat) : Nat := if k = 3 then 4 else 3
def ax_tF : List ((Nat × Nat) × (Nat × Nat)) := [((0, 10), (0, 0)), ((0, 18), (0, 1)), ((0, 22), (0, 2)), ((0, 29), (0, 3)), ((0, 36), (0, 4)), ((0, 43), (0, 5)), ((0, 50), (0, 6)), ((0, 57), (0, 7)), ((0, 203), (3, 4)), ((1, 11), (1, 0)), ((1, 15), (1, 1)), ((1, 18), (1, 2)), ((1, 21), (1, 3)), ((1, 24), (1, 4)), ((1, 27), (1, 5)), ((2, 11), (2, 0)), ((2, 15), (2, 1)), ((3, 9), (3, 0)), ((3, 15), (3, 1)), ((3, 18), (3, 2)), ((3, 21), (3, 5)), ((3, 26), (3, 3)), ((3, 30), (3, 4)), ((4, 11), (4, 0)), ((4, 17), (4, 1)), ((5, 11), (5, 0)), ((5, 15), (5, 1)), ((6, 11), (6, 0)), ((6, 17), (6, 1)), ((6, 21), (6, 2)), ((6, 25), (6, 3)), ((7, 11), (7, 0)), ((7, 17), (7, 1)), ((7, 20), (7, 2)), ((8, 11), (8, 0)), ((8, 15), (8, 1)), ((8, 19), (8, 2)), ((8, 41), (3, 5)), ((9, 7), (9, 2)), ((9, 13), (9, 4)), ((9, 16), (9, 5)), ((9, 20), (9, 7)), ((9, 23), (9, 8)), ((9, 26), (9, 9)), ((9, 29), (9, 10)), ((9, 32), (9, 11)), ((9, 35), (9, 13)), ((9, 38), (9, 14)), ((9, 41), (9, 16)), ((9, 44), (9, 17)), ((9, 47), (9, 19)), ((9, 50), (9, 20)), ((9, 53), (9, 21)), ((9, 59), (9, 1)), ((9, 63), (9, 3)), ((9, 66), (9, 6)), ((9, 69), (9, 12)), ((9, 72), (9, 15)), ((9, 75), (9, 18)), ((9, 78), (9, 0)), ((9, 81), (9, 22)), ((9, 84), (9, 23))]
def ax_tM : List ((Nat × Nat) × (Nat × Nat)) := [((0, 9), (62, 1)), ((0, 28), (23, 1)), ((0, 35), (57, 1)), ((0, 42), (52, 1)), ((0, 49), (47, 1)), ((0, 56), (31, 1)), ((0, 61), (63, 2)), ((0, 65), (66, 2)), ((0, 69), (67, 1)), ((0, 73), (65, 1)), ((0, 77), (17, 3)), ((0, 81), (64, 1)), ((0, 84), (21, 1)), ((0, 101), (24, 4)), ((0, 104), (25, 2)), ((0, 113), (26, 4)), ((0, 117), (19, 3)), ((0, 121), (58, 3)), ((0, 127), (59, 2)), ((0, 130), (60, 2)), ((0, 133), (29, 3)), ((0, 137), (18, 2)), ((0, 141), (46, 2)), ((0, 145), (20, 1)), ((0, 149), (42, 2)), ((0, 159), (32, 1)), ((0, 164), (34, 3)), ((0, 168), (129, 1)), ((0, 175), (22, 2)), ((0, 179), (53, 4)), ((0, 188), (33, 5)), ((0, 192), (45, 2)), ((0, 196), (54, 3)), ((0, 200), (55, 2)), ((0, 206), (48, 7)), ((0, 209), (49, 2)), ((0, 212), (50, 3)), ((0, 213), (30, 1)), ((0, 214), (61, 1)), ((0, 215), (56, 1)), ((0, 216), (51, 1)), ((0, 217), (36, 1)), ((0, 218), (127, 2)), ((0, 227), (128, 2)), ((1, 31), (25, 2)), ((1, 35), (41, 3)), ((1, 41), (27, 3)), ((2, 18), (126, 2)), ((2, 24), (21, 1)), ((2, 28), (32, 1)), ((2, 31), (35, 3)), ((3, 33), (128, 2)), ((4, 21), (45, 2)), ((4, 25), (28, 2)), ((5, 21), (49, 2)), ((7, 24), (27, 3)), ((8, 22), (73, 2)), ((8, 26), (74, 1)), ((8, 30), (75, 1)), ((8, 36), (43, 1)), ((8, 37), (68, 1)), ((8, 47), (44, 2)), ((8, 51), (37, 1)), ((8, 52), (69, 2)), ((8, 55), (70, 2)), ((8, 58), (71, 2)), ((8, 61), (72, 1)), ((8, 64), (38, 3)), ((8, 68), (39, 3)), ((8, 71), (40, 2)), ((9, 56), (77, 1)), ((9, 87), (81, 1)), ((9, 91), (83, 1)), ((9, 99), (85, 2)), ((9, 103), (82, 2)), ((9, 107), (84, 1)), ((9, 115), (86, 2)), ((9, 118), (87, 3)), ((9, 122), (89, 1)), ((9, 128), (91, 1)), ((9, 132), (93, 4)), ((9, 136), (94, 3)), ((9, 140), (96, 2)), ((9, 143), (97, 3)), ((9, 146), (95, 2)), ((9, 150), (101, 1)), ((9, 153), (102, 4)), ((9, 157), (106, 2)), ((10, 7), (3, 4)), ((10, 17), (4, 4)), ((10, 21), (5, 3)), ((10, 25), (6, 3)), ((10, 28), (7, 2)), ((10, 32), (8, 4)), ((10, 36), (9, 4)), ((10, 40), (10, 4)), ((10, 44), (11, 3)), ((10, 48), (12, 5)), ((10, 52), (13, 2)), ((10, 56), (14, 4)), ((10, 60), (15, 3)), ((10, 63), (0, 1)), ((10, 66), (76, 1)), ((10, 67), (1, 2)), ((10, 71), (80, 2)), ((10, 72), (2, 1)), ((10, 76), (88, 1)), ((10, 79), (112, 5)), ((10, 84), (90, 4)), ((10, 85), (78, 1)), ((10, 88), (113, 5)), ((10, 91), (92, 4)), ((10, 92), (114, 4)), ((10, 95), (98, 3)), ((10, 96), (115, 4)), ((10, 98), (99, 3)), ((10, 99), (116, 3)), ((10, 102), (100, 2)), ((10, 103), (117, 5)), ((10, 106), (103, 4)), ((10, 107), (118, 5)), ((10, 110), (104, 4)), ((10, 111), (119, 5)), ((10, 114), (108, 4)), ((10, 115), (120, 4)), ((10, 118), (109, 3)), ((10, 119), (121, 6)), ((10, 122), (107, 5)), ((10, 123), (122, 3)), ((10, 126), (105, 2)), ((10, 127), (123, 5)), ((10, 129), (110, 4)), ((10, 130), (124, 4)), ((10, 132), (111, 3)), ((10, 133), (16, 1)), ((10, 136), (79, 1))]
def ax_tN : List ((Nat × Nat) × Nat) := [((0, 7), 8), ((0, 26), 1), ((0, 33), 7), ((0, 40), 6), ((0, 47), 5), ((0, 54), 2), ((8, 34), 4), ((8, 42), 3), ((10, 8), 0), ((10, 64), 9)]
def ax_tX : List ((Nat × Nat) × (Nat × Nat)) := [((0, 87), (0, 91)), ((0, 96), (1, 100))]
def ax_tS : List (Nat × Nat) := [(0, 89), (0, 98), (0, 107), (0, 111), (0, 125), (0, 155), (0, 157), (0, 162), (0, 182), (0, 186), (0, 210), (0, 221), (0, 223), (0, 225)]
def ax_tR : List ((Nat × Nat) × Nat) := [((0, 16), 3), ((4, 9), 4), ((6, 15), 3)]
def ax_tI : List ((Nat × Nat) × Int32) := [((3, 25), 1000000)]
def ax_tL : List ((Nat × Nat) × Int64) := [((0, 94), 1000000), ((0, 109), (-1000000)), ((0, 173), 40320), ((0, 184), 10), ((2, 35), 16), ((5, 19), 1000), ((9, 95), 10), ((9, 97), 48), ((9, 111), 1000000), ((9, 113), 1000), ((9, 126), (-1000000)), ((9, 160), 2520), ((9, 162), 16), ((9, 164), 40320), ((9, 166), (-1)), ((10, 77), 4294967295)]
def ax_tO : List (Nat × Nat) := [(0, 1), (1, 3), (2, 5), (3, 3), (4, 3), (5, 3), (6, 3), (7, 3), (8, 3), (9, 1)]
def ax_tC : List ((Nat × Nat) × Nat) := [((10, 13), 0), ((10, 15), 1)]
def tb_ML_init_1 : List (Nat × Instr × Nat × Nat) := [(0, .aload_n 0, 1, 0), (1, .invokespecial 1, 4, 0), (4, .aload_n 0, 5, 0), (5, .new 7, 8, 0), (8, .dup, 9, 0), (9, .invokespecial 9, 12, 0), (12, .putfield 10, 15, 0), (15, .aload_n 0, 16, 0), (16, .iconst 4, 17, 0), (17, .anewarray 16, 20, 0), (20, .putfield 18, 23, 0), (23, .aload_n 0, 24, 0), (24, .iconst 0, 25, 0), (25, .putfield 22, 28, 0), (28, .aload_n 0, 29, 0), (29, .new 26, 32, 0), (32, .dup, 33, 0), (33, .invokespecial 28, 36, 0), (36, .putfield 29, 39, 0), (39, .aload_n 0, 40, 0), (40, .new 33, 43, 0), (43, .dup, 44, 0), (44, .invokespecial 35, 47, 0), (47, .putfield 36, 50, 0), (50, .aload_n 0, 51, 0), (51, .new 40, 54, 0), (54, .dup, 55, 0), (55, .invokespecial 42, 58, 0), (58, .putfield 43, 61, 0), (61, .aload_n 0, 62, 0)]
def tb_ML_init_2 : List (Nat × Instr × Nat × Nat) := [(62, .new 47, 65, 0), (65, .dup, 66, 0), (66, .invokespecial 49, 69, 0), (69, .putfield 50, 72, 0), (72, .aload_n 0, 73, 0), (73, .new 54, 76, 0), (76, .dup, 77, 0), (77, .invokespecial 56, 80, 0), (80, .putfield 57, 83, 0), (83, .return_, 84, 0)]
def tb_ML_init : List (Nat × Instr × Nat × Nat) := tb_ML_init_1 ++ tb_ML_init_2
def M_ML_init : ax_M := (0, none, tb_ML_init, [], true)
def m_ML_init : Nat := 0
def tb_ML_unit : List (Nat × Instr × Nat × Nat) := [(0, .aload_n 0, 1, 0), (1, .getfield 10, 4, 0), (4, .iload_n 1, 5, 0), (5, .invokevirtual 61, 8, 0), (8, .ireturn, 9, 0)]
def M_ML_unit : ax_M := (0, (some .boolean), tb_ML_unit, [], false)
def m_ML_unit : Nat := 1
def tb_ML_maker_1 : List (Nat × Instr × Nat × Nat) := [(0, .aload_n 0, 1, 0), (1, .getfield 10, 4, 0), (4, .aload_n 0, 5, 0), (5, .getfield 22, 8, 0), (8, .invokevirtual 65, 11, 0), (11, .istore_n 1, 12, 0), (12, .iload_n 1, 13, 0), (13, .iconst (-1), 14, 0), (14, .if_icmp .ne 7, 17, 21), (17, .aconst_null, 18, 0), (18, .goto 10, 21, 28), (21, .aload_n 0, 22, 0), (22, .getfield 10, 25, 0), (25, .invokevirtual 69, 28, 0), (28, .astore_n 2, 29, 0), (29, .iload_n 1, 30, 0), (30, .istore_n 3, 31, 0), (31, .aload_n 2, 32, 0), (32, .ifnonnull 16, 35, 48), (35, .iconst (-1), 36, 0), (36, .aload_n 0, 37, 0), (37, .getfield 10, 40, 0), (40, .invokevirtual 73, 43, 0), (43, .isub, 44, 0), (44, .istore_n 3, 45, 0), (45, .goto 9, 48, 54), (48, .aload_n 0, 49, 0), (49, .iload_n 1, 50, 0), (50, .aload_n 2, 51, 0), (51, .invokevirtual 77, 54, 0)]
def tb_ML_maker_2 : List (Nat × Instr × Nat × Nat) := [(54, .aload_n 0, 55, 0), (55, .getfield 10, 58, 0), (58, .invokevirtual 81, 61, 0), (61, .iload_n 3, 62, 0), (62, .ireturn, 63, 0)]
def tb_ML_maker : List (Nat × Instr × Nat × Nat) := tb_ML_maker_1 ++ tb_ML_maker_2
def M_ML_maker : ax_M := (0, (some .int), tb_ML_maker, [], false)
def m_ML_maker : Nat := 2
def tb_ML_thing_1 : List (Nat × Instr × Nat × Nat) := [(0, .iload_n 1, 1, 0), (1, .ifCond .lt 17, 4, 18), (4, .iload_n 1, 5, 0), (5, .bipush 6, 7, 0), (7, .if_icmp .ge 11, 10, 18), (10, .iload 4, 12, 0), (12, .invokestatic 84, 15, 0), (15, .ifCond .eq 13, 18, 28), (18, .new 87, 21, 0), (21, .dup, 22, 0), (22, .ldc 89, 24, 0), (24, .invokespecial 91, 27, 0), (27, .athrow, 28, 0), (28, .lload_n 2, 29, 0), (29, .lconst 0, 30, 0), (30, .lcmp, 31, 0), (31, .ifCond .lt 11, 34, 42), (34, .lload_n 2, 35, 0), (35, .ldc2_w 94, 38, 0), (38, .lcmp, 39, 0), (39, .ifCond .le 13, 42, 52), (42, .new 96, 45, 0), (45, .dup, 46, 0), (46, .ldc 98, 48, 0), (48, .invokespecial 100, 51, 0), (51, .athrow, 52, 0), (52, .aload_n 0, 53, 0), (53, .getfield 29, 56, 0), (56, .iload_n 1, 57, 0), (57, .lload_n 2, 58, 0)]
def tb_ML_thing_2 : List (Nat × Instr × Nat × Nat) := [(58, .l2i, 59, 0), (59, .iload 4, 61, 0), (61, .invokevirtual 101, 64, 0), (64, .ireturn, 65, 0)]
def tb_ML_thing : List (Nat × Instr × Nat × Nat) := tb_ML_thing_1 ++ tb_ML_thing_2
def M_ML_thing : ax_M := (0, (some .int), tb_ML_thing, [], false)
def m_ML_thing : Nat := 3
def tb_ML_at_1 : List (Nat × Instr × Nat × Nat) := [(0, .aload_n 0, 1, 0), (1, .getfield 29, 4, 0), (4, .iload_n 1, 5, 0), (5, .invokevirtual 104, 8, 0), (8, .ifCond .eq 13, 11, 21), (11, .new 87, 14, 0), (14, .dup, 15, 0), (15, .ldc 107, 17, 0), (17, .invokespecial 91, 20, 0), (20, .athrow, 21, 0), (21, .lload_n 2, 22, 0), (22, .ldc2_w 109, 25, 0), (25, .lcmp, 26, 0), (26, .ifCond .lt 29, 29, 55), (29, .lload_n 2, 30, 0), (30, .ldc2_w 94, 33, 0), (33, .lcmp, 34, 0), (34, .ifCond .gt 21, 37, 55), (37, .lload 4, 39, 0), (39, .ldc2_w 109, 42, 0), (42, .lcmp, 43, 0), (43, .ifCond .lt 12, 46, 55), (46, .lload 4, 48, 0), (48, .ldc2_w 94, 51, 0), (51, .lcmp, 52, 0), (52, .ifCond .le 13, 55, 65), (55, .new 96, 58, 0), (58, .dup, 59, 0), (59, .ldc 111, 61, 0), (61, .invokespecial 100, 64, 0)]
def tb_ML_at_2 : List (Nat × Instr × Nat × Nat) := [(64, .athrow, 65, 0), (65, .aload_n 0, 66, 0), (66, .getfield 29, 69, 0), (69, .iload_n 1, 70, 0), (70, .lload_n 2, 71, 0), (71, .l2i, 72, 0), (72, .lload 4, 74, 0), (74, .l2i, 75, 0), (75, .invokevirtual 113, 78, 0), (78, .ireturn, 79, 0)]
def tb_ML_at : List (Nat × Instr × Nat × Nat) := tb_ML_at_1 ++ tb_ML_at_2
def M_ML_at : ax_M := (0, (some .boolean), tb_ML_at, [], false)
def m_ML_at : Nat := 4
def tb_ML_run : List (Nat × Instr × Nat × Nat) := [(0, .aload_n 0, 1, 0), (1, .getfield 36, 4, 0), (4, .aload_n 0, 5, 0), (5, .getfield 29, 8, 0), (8, .aload_n 0, 9, 0), (9, .iload_n 1, 10, 0), (10, .iload_n 2, 11, 0), (11, .invokevirtual 117, 14, 0), (14, .invokevirtual 121, 17, 0), (17, .ireturn, 18, 0)]
def M_ML_run : ax_M := (0, (some .int), tb_ML_run, [], false)
def m_ML_run : Nat := 5
def tb_ML_remark_1 : List (Nat × Instr × Nat × Nat) := [(0, .iload_n 2, 1, 0), (1, .ifCond .lt 8, 4, 9), (4, .iload_n 2, 5, 0), (5, .iconst 5, 6, 0), (6, .if_icmp .le 13, 9, 19), (9, .new 87, 12, 0), (12, .dup, 13, 0), (13, .ldc 125, 15, 0), (15, .invokespecial 91, 18, 0), (18, .athrow, 19, 0), (19, .aload_n 0, 20, 0), (20, .getfield 36, 23, 0), (23, .iload_n 1, 24, 0), (24, .invokevirtual 127, 27, 0), (27, .istore_n 3, 28, 0), (28, .iload_n 3, 29, 0), (29, .iconst (-1), 30, 0), (30, .if_icmp .ne 5, 33, 35), (33, .iconst (-1), 34, 0), (34, .ireturn, 35, 0), (35, .iload_n 2, 36, 0), (36, .lookupswitch 39 #[(0, 28), (2, 30)], 64, 0), (64, .iload_n 3, 65, 0), (65, .ireturn, 66, 0), (66, .aload_n 0, 67, 0), (67, .getfield 36, 70, 0), (70, .iload_n 1, 71, 0), (71, .invokevirtual 130, 74, 0), (74, .ireturn, 75, 0), (75, .aload_n 0, 76, 0)]
def tb_ML_remark_2 : List (Nat × Instr × Nat × Nat) := [(76, .getfield 29, 79, 0), (79, .iload_n 3, 80, 0), (80, .iload_n 2, 81, 0), (81, .invokevirtual 133, 84, 0), (84, .ireturn, 85, 0)]
def tb_ML_remark : List (Nat × Instr × Nat × Nat) := tb_ML_remark_1 ++ tb_ML_remark_2
def M_ML_remark : ax_M := (0, (some .int), tb_ML_remark, [], false)
def m_ML_remark : Nat := 6
def tb_ML_least : List (Nat × Instr × Nat × Nat) := [(0, .aload_n 0, 1, 0), (1, .iload_n 1, 2, 0), (2, .invokevirtual 137, 5, 0), (5, .aload_n 0, 6, 0), (6, .getfield 29, 9, 0), (9, .invokevirtual 141, 12, 0), (12, .ireturn, 13, 0)]
def M_ML_least : ax_M := (0, (some .int), tb_ML_least, [], false)
def m_ML_least : Nat := 7
def tb_ML_price : List (Nat × Instr × Nat × Nat) := [(0, .aload_n 0, 1, 0), (1, .iload_n 1, 2, 0), (2, .iload_n 2, 3, 0), (3, .invokevirtual 117, 6, 0), (6, .astore 5, 8, 0), (8, .lload_n 3, 9, 0), (9, .invokestatic 145, 12, 0), (12, .aload 5, 14, 0), (14, .lload_n 3, 15, 0), (15, .invokevirtual 149, 18, 0), (18, .lreturn, 19, 0)]
def M_ML_price : ax_M := (0, (some .long), tb_ML_price, [], false)
def m_ML_price : Nat := 8
def tb_ML_share_1 : List (Nat × Instr × Nat × Nat) := [(0, .lload_n 3, 1, 0), (1, .lconst 1, 2, 0), (2, .lcmp, 3, 0), (3, .ifCond .lt 17, 6, 20), (6, .lload_n 3, 7, 0), (7, .ldc2_w 94, 10, 0), (10, .lcmp, 11, 0), (11, .ifCond .gt 9, 14, 20), (14, .lload_n 1, 15, 0), (15, .lconst 0, 16, 0), (16, .lcmp, 17, 0), (17, .ifCond .ge 13, 20, 30), (20, .new 96, 23, 0), (23, .dup, 24, 0), (24, .ldc 155, 26, 0), (26, .invokespecial 100, 29, 0), (29, .athrow, 30, 0), (30, .iload 5, 32, 0), (32, .ifCond .lt 11, 35, 43), (35, .iload 5, 37, 0), (37, .i2l, 38, 0), (38, .lload_n 3, 39, 0), (39, .lcmp, 40, 0), (40, .ifCond .lt 13, 43, 53), (43, .new 87, 46, 0), (46, .dup, 47, 0), (47, .ldc 157, 49, 0), (49, .invokespecial 91, 52, 0), (52, .athrow, 53, 0), (53, .lload_n 1, 54, 0)]
def tb_ML_share_2 : List (Nat × Instr × Nat × Nat) := [(54, .lload_n 3, 55, 0), (55, .lrem, 56, 0), (56, .lstore 6, 58, 0), (58, .lload_n 1, 59, 0), (59, .lload_n 3, 60, 0), (60, .ldiv, 61, 0), (61, .iload 5, 63, 0), (63, .i2l, 64, 0), (64, .lload 6, 66, 0), (66, .lcmp, 67, 0), (67, .ifCond .ge 7, 70, 74), (70, .iconst 1, 71, 0), (71, .goto 4, 74, 75), (74, .iconst 0, 75, 0), (75, .i2l, 76, 0), (76, .ladd, 77, 0), (77, .lreturn, 78, 0)]
def tb_ML_share : List (Nat × Instr × Nat × Nat) := tb_ML_share_1 ++ tb_ML_share_2
def M_ML_share : ax_M := (0, (some .long), tb_ML_share, [], false)
def m_ML_share : Nat := 9
def tb_ML_balance_1 : List (Nat × Instr × Nat × Nat) := [(0, .iload_n 1, 1, 0), (1, .invokestatic 84, 4, 0), (4, .ifCond .ne 19, 7, 23), (7, .iload_n 2, 8, 0), (8, .invokestatic 159, 11, 0), (11, .ifCond .ne 12, 14, 23), (14, .iload_n 3, 15, 0), (15, .ifCond .lt 8, 18, 23), (18, .iload_n 3, 19, 0), (19, .iconst 1, 20, 0), (20, .if_icmp .le 13, 23, 33), (23, .new 87, 26, 0), (26, .dup, 27, 0), (27, .ldc 162, 29, 0), (29, .invokespecial 91, 32, 0), (32, .athrow, 33, 0), (33, .aload_n 0, 34, 0), (34, .getfield 57, 37, 0), (37, .iload_n 1, 38, 0), (38, .iload_n 2, 39, 0), (39, .invokevirtual 164, 42, 0), (42, .lstore 4, 44, 0), (44, .lload 4, 46, 0), (46, .invokestatic 168, 49, 0), (49, .ldc2_w 173, 52, 0), (52, .invokestatic 175, 55, 0), (55, .lstore 6, 57, 0), (57, .iload_n 3, 58, 0), (58, .ifCond .ne 8, 61, 66), (61, .lload 4, 63, 0)]
def tb_ML_balance_2 : List (Nat × Instr × Nat × Nat) := [(63, .goto 6, 66, 69), (66, .ldc2_w 173, 69, 0), (69, .lload 6, 71, 0), (71, .ldiv, 72, 0), (72, .lreturn, 73, 0)]
def tb_ML_balance : List (Nat × Instr × Nat × Nat) := tb_ML_balance_1 ++ tb_ML_balance_2
def M_ML_balance : ax_M := (0, (some .long), tb_ML_balance, [], false)
def m_ML_balance : Nat := 10
def tb_ML_quote : List (Nat × Instr × Nat × Nat) := [(0, .aload_n 0, 1, 0), (1, .getfield 43, 4, 0), (4, .iload_n 1, 5, 0), (5, .aload_n 0, 6, 0), (6, .iload_n 1, 7, 0), (7, .invokevirtual 137, 10, 0), (10, .lload_n 2, 11, 0), (11, .invokevirtual 179, 14, 0), (14, .ireturn, 15, 0)]
def M_ML_quote : ax_M := (0, (some .int), tb_ML_quote, [], false)
def m_ML_quote : Nat := 11
def tb_ML_copper_1 : List (Nat × Instr × Nat × Nat) := [(0, .iload_n 1, 1, 0), (1, .invokestatic 84, 4, 0), (4, .ifCond .ne 10, 7, 14), (7, .iload_n 2, 8, 0), (8, .invokestatic 159, 11, 0), (11, .ifCond .eq 13, 14, 24), (14, .new 87, 17, 0), (17, .dup, 18, 0), (18, .ldc 182, 20, 0), (20, .invokespecial 91, 23, 0), (23, .athrow, 24, 0), (24, .lload 5, 26, 0), (26, .lconst 1, 27, 0), (27, .lcmp, 28, 0), (28, .ifCond .lt 25, 31, 53), (31, .lload 5, 33, 0), (33, .ldc2_w 184, 36, 0), (36, .lcmp, 37, 0), (37, .ifCond .gt 16, 40, 53), (40, .lload_n 3, 41, 0), (41, .lconst 0, 42, 0), (42, .lcmp, 43, 0), (43, .ifCond .lt 10, 46, 53), (46, .lload_n 3, 47, 0), (47, .lload 5, 49, 0), (49, .lcmp, 50, 0), (50, .ifCond .le 13, 53, 63), (53, .new 96, 56, 0), (56, .dup, 57, 0), (57, .ldc 186, 59, 0)]
def tb_ML_copper_2 : List (Nat × Instr × Nat × Nat) := [(59, .invokespecial 100, 62, 0), (62, .athrow, 63, 0), (63, .aload_n 0, 64, 0), (64, .getfield 57, 67, 0), (67, .iload_n 1, 68, 0), (68, .iload_n 2, 69, 0), (69, .lload_n 3, 70, 0), (70, .l2i, 71, 0), (71, .lload 5, 73, 0), (73, .l2i, 74, 0), (74, .invokevirtual 188, 77, 0), (77, .ireturn, 78, 0)]
def tb_ML_copper : List (Nat × Instr × Nat × Nat) := tb_ML_copper_1 ++ tb_ML_copper_2
def M_ML_copper : ax_M := (0, (some .boolean), tb_ML_copper, [], false)
def m_ML_copper : Nat := 12
def tb_ML_best_1 : List (Nat × Instr × Nat × Nat) := [(0, .lload_n 1, 1, 0), (1, .invokestatic 145, 4, 0), (4, .iconst (-1), 5, 0), (5, .istore_n 3, 6, 0), (6, .lconst 0, 7, 0), (7, .lstore 4, 9, 0), (9, .iconst 0, 10, 0), (10, .istore 6, 12, 0), (12, .iload 6, 14, 0), (14, .iconst 4, 15, 0), (15, .if_icmp .ge 76, 18, 91), (18, .aload_n 0, 19, 0), (19, .getfield 18, 22, 0), (22, .iload 6, 24, 0), (24, .aaload, 25, 0), (25, .astore 7, 27, 0), (27, .aload 7, 29, 0), (29, .ifnonnull 7, 32, 36), (32, .aconst_null, 33, 0), (33, .goto 17, 36, 50), (36, .aload 7, 38, 0), (38, .aload 7, 40, 0), (40, .aload_n 0, 41, 0), (41, .getfield 29, 44, 0), (44, .invokevirtual 141, 47, 0), (47, .invokevirtual 192, 50, 0), (50, .astore 8, 52, 0), (52, .aload 8, 54, 0), (54, .ifnull 31, 57, 85), (57, .iload_n 3, 58, 0)]
def tb_ML_best_2 : List (Nat × Instr × Nat × Nat) := [(58, .iconst (-1), 59, 0), (59, .if_icmp .eq 15, 62, 74), (62, .aload 8, 64, 0), (64, .lload_n 1, 65, 0), (65, .invokevirtual 149, 68, 0), (68, .lload 4, 70, 0), (70, .lcmp, 71, 0), (71, .ifCond .ge 14, 74, 85), (74, .iload 6, 76, 0), (76, .istore_n 3, 77, 0), (77, .aload 8, 79, 0), (79, .lload_n 1, 80, 0), (80, .invokevirtual 149, 83, 0), (83, .lstore 4, 85, 0), (85, .iinc 6 1, 88, 0), (88, .goto (-76), 91, 12), (91, .iload_n 3, 92, 0), (92, .ireturn, 93, 0)]
def tb_ML_best : List (Nat × Instr × Nat × Nat) := tb_ML_best_1 ++ tb_ML_best_2
def M_ML_best : ax_M := (0, (some .int), tb_ML_best, [], false)
def m_ML_best : Nat := 13
def tb_ML_order_1 : List (Nat × Instr × Nat × Nat) := [(0, .aload_n 0, 1, 0), (1, .iload_n 1, 2, 0), (2, .invokevirtual 137, 5, 0), (5, .astore 6, 7, 0), (7, .lload_n 2, 8, 0), (8, .invokestatic 145, 11, 0), (11, .aload_n 0, 12, 0), (12, .getfield 43, 15, 0), (15, .iload_n 1, 16, 0), (16, .lload 4, 18, 0), (18, .invokevirtual 196, 21, 0), (21, .istore 7, 23, 0), (23, .aload_n 0, 24, 0), (24, .getfield 43, 27, 0), (27, .iload 7, 29, 0), (29, .invokevirtual 200, 32, 0), (32, .astore 8, 34, 0), (34, .aload 8, 36, 0), (36, .ifnonnull 8, 39, 44), (39, .aload 6, 41, 0), (41, .goto 5, 44, 46), (44, .aload 8, 46, 0), (46, .astore 9, 48, 0), (48, .aload 9, 50, 0), (50, .aload_n 0, 51, 0), (51, .getfield 29, 54, 0), (54, .invokevirtual 141, 57, 0), (57, .istore 10, 59, 0), (59, .aload 9, 61, 0), (61, .iload 10, 63, 0)]
def tb_ML_order_2 : List (Nat × Instr × Nat × Nat) := [(63, .invokevirtual 192, 66, 0), (66, .astore 11, 68, 0), (68, .aload 11, 70, 0), (70, .ifnonnull 5, 73, 75), (73, .iconst (-1), 74, 0), (74, .ireturn, 75, 0), (75, .aload_n 0, 76, 0), (76, .getfield 50, 79, 0), (79, .iload_n 1, 80, 0), (80, .iload 10, 82, 0), (82, .lload_n 2, 83, 0), (83, .l2i, 84, 0), (84, .aload 11, 86, 0), (86, .getfield 203, 89, 0), (89, .aload 11, 91, 0), (91, .lload_n 2, 92, 0), (92, .invokevirtual 149, 95, 0), (95, .iload 7, 97, 0), (97, .invokevirtual 206, 100, 0), (100, .ireturn, 101, 0)]
def tb_ML_order : List (Nat × Instr × Nat × Nat) := tb_ML_order_1 ++ tb_ML_order_2
def M_ML_order : ax_M := (0, (some .int), tb_ML_order, [], false)
def m_ML_order : Nat := 14
def tb_ML_history : List (Nat × Instr × Nat × Nat) := [(0, .aload_n 0, 1, 0), (1, .getfield 50, 4, 0), (4, .iload_n 1, 5, 0), (5, .invokevirtual 209, 8, 0), (8, .ifCond .ne 13, 11, 21), (11, .iload_n 2, 12, 0), (12, .ifCond .lt 9, 15, 21), (15, .iload_n 2, 16, 0), (16, .bipush 7, 18, 0), (18, .if_icmp .lt 13, 21, 31), (21, .new 87, 24, 0), (24, .dup, 25, 0), (25, .ldc 210, 27, 0), (27, .invokespecial 91, 30, 0), (30, .athrow, 31, 0), (31, .aload_n 0, 32, 0), (32, .getfield 50, 35, 0), (35, .iload_n 1, 36, 0), (36, .iload_n 2, 37, 0), (37, .invokevirtual 212, 40, 0), (40, .ireturn, 41, 0)]
def M_ML_history : ax_M := (0, (some .int), tb_ML_history, [], false)
def m_ML_history : Nat := 15
def tb_ML_clear_1 : List (Nat × Instr × Nat × Nat) := [(0, .aload_n 0, 1, 0), (1, .getfield 10, 4, 0), (4, .invokevirtual 81, 7, 0), (7, .iconst 0, 8, 0), (8, .istore_n 1, 9, 0), (9, .iload_n 1, 10, 0), (10, .iconst 4, 11, 0), (11, .if_icmp .ge 16, 14, 27), (14, .aload_n 0, 15, 0), (15, .getfield 18, 18, 0), (18, .iload_n 1, 19, 0), (19, .aconst_null, 20, 0), (20, .aastore, 21, 0), (21, .iinc 1 1, 24, 0), (24, .goto (-15), 27, 9), (27, .aload_n 0, 28, 0), (28, .iconst 0, 29, 0), (29, .putfield 22, 32, 0), (32, .aload_n 0, 33, 0), (33, .getfield 29, 36, 0), (36, .invokevirtual 213, 39, 0), (39, .aload_n 0, 40, 0), (40, .getfield 36, 43, 0), (43, .invokevirtual 214, 46, 0), (46, .aload_n 0, 47, 0), (47, .getfield 43, 50, 0), (50, .invokevirtual 215, 53, 0), (53, .aload_n 0, 54, 0), (54, .getfield 50, 57, 0), (57, .invokevirtual 216, 60, 0)]
def tb_ML_clear_2 : List (Nat × Instr × Nat × Nat) := [(60, .aload_n 0, 61, 0), (61, .getfield 57, 64, 0), (64, .invokevirtual 217, 67, 0), (67, .return_, 68, 0)]
def tb_ML_clear : List (Nat × Instr × Nat × Nat) := tb_ML_clear_1 ++ tb_ML_clear_2
def M_ML_clear : ax_M := (0, none, tb_ML_clear, [], false)
def m_ML_clear : Nat := 16
def tb_ML_keepOffer : List (Nat × Instr × Nat × Nat) := [(0, .iload_n 1, 1, 0), (1, .ifCond .lt 8, 4, 9), (4, .iload_n 1, 5, 0), (5, .iconst 4, 6, 0), (6, .if_icmp .lt 4, 9, 10), (9, .return_, 10, 0), (10, .aload_n 0, 11, 0), (11, .getfield 18, 14, 0), (14, .iload_n 1, 15, 0), (15, .aload_n 2, 16, 0), (16, .aastore, 17, 0), (17, .aload_n 0, 18, 0), (18, .aload_n 0, 19, 0), (19, .getfield 22, 22, 0), (22, .iload_n 1, 23, 0), (23, .iconst 1, 24, 0), (24, .iadd, 25, 0), (25, .invokestatic 218, 28, 0), (28, .putfield 22, 31, 0), (31, .return_, 32, 0)]
def M_ML_keepOffer : ax_M := (0, none, tb_ML_keepOffer, [], false)
def m_ML_keepOffer : Nat := 17
def tb_ML_offerOf : List (Nat × Instr × Nat × Nat) := [(0, .iload_n 1, 1, 0), (1, .ifCond .lt 8, 4, 9), (4, .iload_n 1, 5, 0), (5, .iconst 4, 6, 0), (6, .if_icmp .lt 7, 9, 13), (9, .aconst_null, 10, 0), (10, .goto 9, 13, 19), (13, .aload_n 0, 14, 0), (14, .getfield 18, 17, 0), (17, .iload_n 1, 18, 0), (18, .aaload, 19, 0), (19, .astore_n 2, 20, 0), (20, .aload_n 2, 21, 0), (21, .ifnonnull 13, 24, 34), (24, .new 87, 27, 0), (27, .dup, 28, 0), (28, .ldc 221, 30, 0), (30, .invokespecial 91, 33, 0), (33, .athrow, 34, 0), (34, .aload_n 2, 35, 0), (35, .areturn, 36, 0)]
def M_ML_offerOf : ax_M := (0, (some (.object "MakingLimits$Offer")), tb_ML_offerOf, [], false)
def m_ML_offerOf : Nat := 18
def tb_ML_gradeOf : List (Nat × Instr × Nat × Nat) := [(0, .aload_n 0, 1, 0), (1, .iload_n 1, 2, 0), (2, .invokevirtual 137, 5, 0), (5, .iload_n 2, 6, 0), (6, .invokevirtual 192, 9, 0), (9, .astore_n 3, 10, 0), (10, .aload_n 3, 11, 0), (11, .ifnonnull 13, 14, 24), (14, .new 87, 17, 0), (17, .dup, 18, 0), (18, .ldc 223, 20, 0), (20, .invokespecial 91, 23, 0), (23, .athrow, 24, 0), (24, .aload_n 3, 25, 0), (25, .areturn, 26, 0)]
def M_ML_gradeOf : ax_M := (0, (some (.object "MakingLimits$Grade")), tb_ML_gradeOf, [], false)
def m_ML_gradeOf : Nat := 19
def tb_ML_checkQuantity : List (Nat × Instr × Nat × Nat) := [(0, .lload_n 0, 1, 0), (1, .lconst 1, 2, 0), (2, .lcmp, 3, 0), (3, .ifCond .lt 11, 6, 14), (6, .lload_n 0, 7, 0), (7, .ldc2_w 94, 10, 0), (10, .lcmp, 11, 0), (11, .ifCond .le 13, 14, 24), (14, .new 96, 17, 0), (17, .dup, 18, 0), (18, .ldc 225, 20, 0), (20, .invokespecial 100, 23, 0), (23, .athrow, 24, 0), (24, .return_, 25, 0)]
def M_ML_checkQuantity : ax_M := (0, none, tb_ML_checkQuantity, [], false)
def m_ML_checkQuantity : Nat := 20
def tb_ML_isNoLayer : List (Nat × Instr × Nat × Nat) := [(0, .iload_n 0, 1, 0), (1, .ifCond .lt 9, 4, 10), (4, .iload_n 0, 5, 0), (5, .bipush 8, 7, 0), (7, .if_icmp .lt 7, 10, 14), (10, .iconst 1, 11, 0), (11, .goto 4, 14, 15), (14, .iconst 0, 15, 0), (15, .ireturn, 16, 0)]
def M_ML_isNoLayer : ax_M := (0, (some .boolean), tb_ML_isNoLayer, [], false)
def m_ML_isNoLayer : Nat := 21
def tb_ML_commonDivisor : List (Nat × Instr × Nat × Nat) := [(0, .lload_n 0, 1, 0), (1, .lstore 4, 3, 0), (3, .lload_n 2, 4, 0), (4, .lstore 6, 6, 0), (6, .iconst 0, 7, 0), (7, .istore 8, 9, 0), (9, .iload 8, 11, 0), (11, .bipush 100, 13, 0), (13, .if_icmp .ge 31, 16, 44), (16, .lload 6, 18, 0), (18, .lconst 0, 19, 0), (19, .lcmp, 20, 0), (20, .ifCond .eq 24, 23, 44), (23, .lload 4, 25, 0), (25, .lload 6, 27, 0), (27, .lrem, 28, 0), (28, .lstore 9, 30, 0), (30, .lload 6, 32, 0), (32, .lstore 4, 34, 0), (34, .lload 9, 36, 0), (36, .lstore 6, 38, 0), (38, .iinc 8 1, 41, 0), (41, .goto (-32), 44, 9), (44, .lload 4, 46, 0), (46, .lconst 1, 47, 0), (47, .invokestatic 227, 50, 0), (50, .lreturn, 51, 0)]
def M_ML_commonDivisor : ax_M := (0, (some .long), tb_ML_commonDivisor, [], false)
def m_ML_commonDivisor : Nat := 22
def tb_Bd_init : List (Nat × Instr × Nat × Nat) := [(0, .aload_n 0, 1, 0), (1, .invokespecial 3, 4, 0), (4, .aload_n 0, 5, 0), (5, .bipush 60, 7, 0), (7, .newarray .int, 9, 0), (9, .putfield 11, 12, 0), (12, .aload_n 0, 13, 0), (13, .bipush 60, 15, 0), (15, .newarray .int, 17, 0), (17, .putfield 15, 20, 0), (20, .aload_n 0, 21, 0), (21, .bipush 60, 23, 0), (23, .newarray .int, 25, 0), (25, .putfield 18, 28, 0), (28, .aload_n 0, 29, 0), (29, .bipush 60, 31, 0), (31, .newarray .int, 33, 0), (33, .putfield 21, 36, 0), (36, .aload_n 0, 37, 0), (37, .bipush 60, 39, 0), (39, .newarray .int, 41, 0), (41, .putfield 24, 44, 0), (44, .return_, 45, 0)]
def M_Bd_init : ax_M := (1, none, tb_Bd_init, [], true)
def m_Bd_init : Nat := 23
def tb_Bd_add_1 : List (Nat × Instr × Nat × Nat) := [(0, .aload_n 0, 1, 0), (1, .getfield 27, 4, 0), (4, .bipush 60, 6, 0), (6, .if_icmp .lt 5, 9, 11), (9, .iconst (-1), 10, 0), (10, .ireturn, 11, 0), (11, .aload_n 0, 12, 0), (12, .getfield 11, 15, 0), (15, .aload_n 0, 16, 0), (16, .getfield 27, 19, 0), (19, .iload_n 1, 20, 0), (20, .iastore, 21, 0), (21, .aload_n 0, 22, 0), (22, .getfield 15, 25, 0), (25, .aload_n 0, 26, 0), (26, .getfield 27, 29, 0), (29, .iload_n 2, 30, 0), (30, .iastore, 31, 0), (31, .aload_n 0, 32, 0), (32, .getfield 18, 35, 0), (35, .aload_n 0, 36, 0), (36, .getfield 27, 39, 0), (39, .iload_n 3, 40, 0), (40, .iastore, 41, 0), (41, .aload_n 0, 42, 0), (42, .getfield 21, 45, 0), (45, .aload_n 0, 46, 0), (46, .getfield 27, 49, 0), (49, .iconst 0, 50, 0), (50, .iastore, 51, 0)]
def tb_Bd_add_2 : List (Nat × Instr × Nat × Nat) := [(51, .aload_n 0, 52, 0), (52, .getfield 24, 55, 0), (55, .aload_n 0, 56, 0), (56, .getfield 27, 59, 0), (59, .iconst 0, 60, 0), (60, .iastore, 61, 0), (61, .aload_n 0, 62, 0), (62, .dup, 63, 0), (63, .getfield 27, 66, 0), (66, .iconst 1, 67, 0), (67, .iadd, 68, 0), (68, .putfield 27, 71, 0), (71, .aload_n 0, 72, 0), (72, .getfield 27, 75, 0), (75, .iconst 1, 76, 0), (76, .isub, 77, 0), (77, .ireturn, 78, 0)]
def tb_Bd_add : List (Nat × Instr × Nat × Nat) := tb_Bd_add_1 ++ tb_Bd_add_2
def M_Bd_add : ax_M := (1, (some .int), tb_Bd_add, [], false)
def m_Bd_add : Nat := 24
def tb_Bd_hasNo : List (Nat × Instr × Nat × Nat) := [(0, .iload_n 1, 1, 0), (1, .ifCond .lt 11, 4, 12), (4, .iload_n 1, 5, 0), (5, .aload_n 0, 6, 0), (6, .getfield 27, 9, 0), (9, .if_icmp .lt 7, 12, 16), (12, .iconst 1, 13, 0), (13, .goto 4, 16, 17), (16, .iconst 0, 17, 0), (17, .ireturn, 18, 0)]
def M_Bd_hasNo : ax_M := (1, (some .boolean), tb_Bd_hasNo, [], false)
def m_Bd_hasNo : Nat := 25
def tb_Bd_move_1 : List (Nat × Instr × Nat × Nat) := [(0, .aload_n 0, 1, 0), (1, .iload_n 1, 2, 0), (2, .invokevirtual 31, 5, 0), (5, .ifCond .eq 5, 8, 10), (8, .iconst 0, 9, 0), (9, .ireturn, 10, 0), (10, .aload_n 0, 11, 0), (11, .getfield 21, 14, 0), (14, .iload_n 1, 15, 0), (15, .iaload, 16, 0), (16, .iload_n 2, 17, 0), (17, .if_icmp .ne 13, 20, 30), (20, .aload_n 0, 21, 0), (21, .getfield 24, 24, 0), (24, .iload_n 1, 25, 0), (25, .iaload, 26, 0), (26, .iload_n 3, 27, 0), (27, .if_icmp .eq 7, 30, 34), (30, .iconst 1, 31, 0), (31, .goto 4, 34, 35), (34, .iconst 0, 35, 0), (35, .istore 4, 37, 0), (37, .aload_n 0, 38, 0), (38, .getfield 21, 41, 0), (41, .iload_n 1, 42, 0), (42, .iload_n 2, 43, 0), (43, .iastore, 44, 0), (44, .aload_n 0, 45, 0), (45, .getfield 24, 48, 0), (48, .iload_n 1, 49, 0)]
def tb_Bd_move_2 : List (Nat × Instr × Nat × Nat) := [(49, .iload_n 3, 50, 0), (50, .iastore, 51, 0), (51, .iload 4, 53, 0), (53, .ireturn, 54, 0)]
def tb_Bd_move : List (Nat × Instr × Nat × Nat) := tb_Bd_move_1 ++ tb_Bd_move_2
def M_Bd_move : ax_M := (1, (some .boolean), tb_Bd_move, [], false)
def m_Bd_move : Nat := 26
def tb_Bd_excess : List (Nat × Instr × Nat × Nat) := [(0, .aload_n 0, 1, 0), (1, .iload_n 1, 2, 0), (2, .invokevirtual 31, 5, 0), (5, .ifCond .eq 7, 8, 12), (8, .iconst 0, 9, 0), (9, .goto 19, 12, 28), (12, .aload_n 2, 13, 0), (13, .aload_n 0, 14, 0), (14, .getfield 11, 17, 0), (17, .iload_n 1, 18, 0), (18, .iaload, 19, 0), (19, .aload_n 0, 20, 0), (20, .getfield 15, 23, 0), (23, .iload_n 1, 24, 0), (24, .iaload, 25, 0), (25, .invokevirtual 35, 28, 0), (28, .ireturn, 29, 0)]
def M_Bd_excess : ax_M := (1, (some .int), tb_Bd_excess, [], false)
def m_Bd_excess : Nat := 27
def tb_Bd_isMadeBy : List (Nat × Instr × Nat × Nat) := [(0, .iconst 0, 1, 0), (1, .istore_n 2, 2, 0), (2, .iload_n 2, 3, 0), (3, .aload_n 0, 4, 0), (4, .getfield 27, 7, 0), (7, .if_icmp .ge 20, 10, 27), (10, .aload_n 0, 11, 0), (11, .iload_n 2, 12, 0), (12, .aload_n 1, 13, 0), (13, .invokevirtual 41, 16, 0), (16, .ifCond .le 5, 19, 21), (19, .iconst 0, 20, 0), (20, .ireturn, 21, 0), (21, .iinc 2 1, 24, 0), (24, .goto (-22), 27, 2), (27, .iconst 1, 28, 0), (28, .ireturn, 29, 0)]
def M_Bd_isMadeBy : ax_M := (1, (some .boolean), tb_Bd_isMadeBy, [], false)
def m_Bd_isMadeBy : Nat := 28
def tb_Bd_part : List (Nat × Instr × Nat × Nat) := [(0, .aload_n 0, 1, 0), (1, .iload_n 1, 2, 0), (2, .invokevirtual 31, 5, 0), (5, .ifCond .eq 5, 8, 10), (8, .iconst (-1), 9, 0), (9, .ireturn, 10, 0), (10, .iload_n 2, 11, 0), (11, .tableswitch 61 1 5 #[33, 61, 40, 47, 54], 44, 0), (44, .aload_n 0, 45, 0), (45, .getfield 11, 48, 0), (48, .iload_n 1, 49, 0), (49, .iaload, 50, 0), (50, .ireturn, 51, 0), (51, .aload_n 0, 52, 0), (52, .getfield 18, 55, 0), (55, .iload_n 1, 56, 0), (56, .iaload, 57, 0), (57, .ireturn, 58, 0), (58, .aload_n 0, 59, 0), (59, .getfield 21, 62, 0), (62, .iload_n 1, 63, 0), (63, .iaload, 64, 0), (64, .ireturn, 65, 0), (65, .aload_n 0, 66, 0), (66, .getfield 24, 69, 0), (69, .iload_n 1, 70, 0), (70, .iaload, 71, 0), (71, .ireturn, 72, 0), (72, .iconst (-1), 73, 0), (73, .ireturn, 74, 0)]
def M_Bd_part : ax_M := (1, (some .int), tb_Bd_part, [], false)
def m_Bd_part : Nat := 29
def tb_Bd_forget : List (Nat × Instr × Nat × Nat) := [(0, .aload_n 0, 1, 0), (1, .iconst 0, 2, 0), (2, .putfield 27, 5, 0), (5, .return_, 6, 0)]
def M_Bd_forget : ax_M := (1, none, tb_Bd_forget, [], false)
def m_Bd_forget : Nat := 30
def tb_Ce_init : List (Nat × Instr × Nat × Nat) := [(0, .aload_n 0, 1, 0), (1, .invokespecial 5, 4, 0), (4, .aload_n 0, 5, 0), (5, .sipush 128, 8, 0), (8, .newarray .int, 10, 0), (10, .putfield 11, 13, 0), (13, .aload_n 0, 14, 0), (14, .sipush 128, 17, 0), (17, .newarray .int, 19, 0), (19, .putfield 15, 22, 0), (22, .aload_n 0, 23, 0), (23, .getfield 15, 26, 0), (26, .iconst 1, 27, 0), (27, .invokestatic 18, 30, 0), (30, .return_, 31, 0)]
def M_Ce_init : ax_M := (2, none, tb_Ce_init, [], true)
def m_Ce_init : Nat := 31
def tb_Ce_isNoCell : List (Nat × Instr × Nat × Nat) := [(0, .iload_n 0, 1, 0), (1, .ifCond .lt 9, 4, 10), (4, .iload_n 0, 5, 0), (5, .bipush 16, 7, 0), (7, .if_icmp .lt 7, 10, 14), (10, .iconst 1, 11, 0), (11, .goto 4, 14, 15), (14, .iconst 0, 15, 0), (15, .ireturn, 16, 0)]
def M_Ce_isNoCell : ax_M := (2, (some .boolean), tb_Ce_isNoCell, [], false)
def m_Ce_isNoCell : Nat := 32
def tb_Ce_tell_1 : List (Nat × Instr × Nat × Nat) := [(0, .iload_n 1, 1, 0), (1, .invokestatic 24, 4, 0), (4, .ifCond .ne 10, 7, 14), (7, .iload_n 2, 8, 0), (8, .invokestatic 28, 11, 0), (11, .ifCond .eq 5, 14, 16), (14, .iconst 0, 15, 0), (15, .ireturn, 16, 0), (16, .iload_n 1, 17, 0), (17, .bipush 16, 19, 0), (19, .imul, 20, 0), (20, .iload_n 2, 21, 0), (21, .iadd, 22, 0), (22, .istore 5, 24, 0), (24, .aload_n 0, 25, 0), (25, .getfield 11, 28, 0), (28, .iload 5, 30, 0), (30, .iaload, 31, 0), (31, .iload_n 3, 32, 0), (32, .if_icmp .ne 15, 35, 47), (35, .aload_n 0, 36, 0), (36, .getfield 15, 39, 0), (39, .iload 5, 41, 0), (41, .iaload, 42, 0), (42, .iload 4, 44, 0), (44, .if_icmp .eq 7, 47, 51), (47, .iconst 1, 48, 0), (48, .goto 4, 51, 52), (51, .iconst 0, 52, 0), (52, .istore 6, 54, 0)]
def tb_Ce_tell_2 : List (Nat × Instr × Nat × Nat) := [(54, .aload_n 0, 55, 0), (55, .getfield 11, 58, 0), (58, .iload 5, 60, 0), (60, .iload_n 3, 61, 0), (61, .iastore, 62, 0), (62, .aload_n 0, 63, 0), (63, .getfield 15, 66, 0), (66, .iload 5, 68, 0), (68, .iload 4, 70, 0), (70, .iastore, 71, 0), (71, .iload 6, 73, 0), (73, .ireturn, 74, 0)]
def tb_Ce_tell : List (Nat × Instr × Nat × Nat) := tb_Ce_tell_1 ++ tb_Ce_tell_2
def M_Ce_tell : ax_M := (2, (some .boolean), tb_Ce_tell, [], false)
def m_Ce_tell : Nat := 33
def tb_Ce_aboveMean : List (Nat × Instr × Nat × Nat) := [(0, .lconst 0, 1, 0), (1, .lstore_n 3, 2, 0), (2, .iconst 0, 3, 0), (3, .istore 5, 5, 0), (5, .iload 5, 7, 0), (7, .bipush 16, 9, 0), (9, .if_icmp .ge 19, 12, 28), (12, .lload_n 3, 13, 0), (13, .aload_n 0, 14, 0), (14, .iload_n 1, 15, 0), (15, .iload 5, 17, 0), (17, .invokevirtual 31, 20, 0), (20, .ladd, 21, 0), (21, .lstore_n 3, 22, 0), (22, .iinc 5 1, 25, 0), (25, .goto (-20), 28, 5), (28, .ldc2_w 35, 31, 0), (31, .aload_n 0, 32, 0), (32, .iload_n 1, 33, 0), (33, .iload_n 2, 34, 0), (34, .invokevirtual 31, 37, 0), (37, .lmul, 38, 0), (38, .lload_n 3, 39, 0), (39, .lsub, 40, 0), (40, .lreturn, 41, 0)]
def M_Ce_aboveMean : ax_M := (2, (some .long), tb_Ce_aboveMean, [], false)
def m_Ce_aboveMean : Nat := 34
def tb_Ce_units_1 : List (Nat × Instr × Nat × Nat) := [(0, .iload_n 1, 1, 0), (1, .invokestatic 24, 4, 0), (4, .ifCond .ne 10, 7, 14), (7, .iload_n 2, 8, 0), (8, .invokestatic 28, 11, 0), (11, .ifCond .eq 5, 14, 16), (14, .lconst 0, 15, 0), (15, .lreturn, 16, 0), (16, .iload_n 1, 17, 0), (17, .bipush 16, 19, 0), (19, .imul, 20, 0), (20, .iload_n 2, 21, 0), (21, .iadd, 22, 0), (22, .istore_n 3, 23, 0), (23, .aload_n 0, 24, 0), (24, .getfield 15, 27, 0), (27, .iload_n 3, 28, 0), (28, .iaload, 29, 0), (29, .istore 4, 31, 0), (31, .iload 4, 33, 0), (33, .iconst 1, 34, 0), (34, .if_icmp .ge 7, 37, 41), (37, .lconst 0, 38, 0), (38, .goto 18, 41, 56), (41, .aload_n 0, 42, 0), (42, .getfield 11, 45, 0), (45, .iload_n 3, 46, 0), (46, .iaload, 47, 0), (47, .i2l, 48, 0), (48, .sipush 2520, 51, 0)]
def tb_Ce_units_2 : List (Nat × Instr × Nat × Nat) := [(51, .iload 4, 53, 0), (53, .idiv, 54, 0), (54, .i2l, 55, 0), (55, .lmul, 56, 0), (56, .lreturn, 57, 0)]
def tb_Ce_units : List (Nat × Instr × Nat × Nat) := tb_Ce_units_1 ++ tb_Ce_units_2
def M_Ce_units : ax_M := (2, (some .long), tb_Ce_units, [], false)
def m_Ce_units : Nat := 35
def tb_Ce_forget : List (Nat × Instr × Nat × Nat) := [(0, .aload_n 0, 1, 0), (1, .getfield 11, 4, 0), (4, .iconst 0, 5, 0), (5, .invokestatic 18, 8, 0), (8, .aload_n 0, 9, 0), (9, .getfield 15, 12, 0), (12, .iconst 1, 13, 0), (13, .invokestatic 18, 16, 0), (16, .return_, 17, 0)]
def M_Ce_forget : ax_M := (2, none, tb_Ce_forget, [], false)
def m_Ce_forget : Nat := 36
def tb_Gr_init : List (Nat × Instr × Nat × Nat) := [(0, .aload_n 0, 1, 0), (1, .invokespecial 3, 4, 0), (4, .aload_n 0, 5, 0), (5, .bipush 6, 7, 0), (7, .newarray .int, 9, 0), (9, .putfield 9, 12, 0), (12, .aload_n 0, 13, 0), (13, .iconst 4, 14, 0), (14, .newarray .int, 16, 0), (16, .putfield 15, 19, 0), (19, .aload_n 0, 20, 0), (20, .iconst 4, 21, 0), (21, .newarray .int, 23, 0), (23, .putfield 18, 26, 0), (26, .aload_n 0, 27, 0), (27, .iconst 1, 28, 0), (28, .putfield 21, 31, 0), (31, .return_, 32, 0)]
def M_Gr_init : ax_M := (3, none, tb_Gr_init, [], true)
def m_Gr_init : Nat := 37
def tb_Gr_setLimit : List (Nat × Instr × Nat × Nat) := [(0, .iload_n 1, 1, 0), (1, .ifCond .lt 15, 4, 16), (4, .iload_n 1, 5, 0), (5, .bipush 6, 7, 0), (7, .if_icmp .ge 9, 10, 16), (10, .iload_n 2, 11, 0), (11, .ldc 25, 13, 0), (13, .if_icmp .le 9, 16, 22), (16, .aload_n 0, 17, 0), (17, .iconst 0, 18, 0), (18, .putfield 21, 21, 0), (21, .return_, 22, 0), (22, .aload_n 0, 23, 0), (23, .getfield 9, 26, 0), (26, .iload_n 1, 27, 0), (27, .iload_n 2, 28, 0), (28, .iastore, 29, 0), (29, .return_, 30, 0)]
def M_Gr_setLimit : ax_M := (3, none, tb_Gr_setLimit, [], false)
def m_Gr_setLimit : Nat := 38
def tb_Gr_addStep_1 : List (Nat × Instr × Nat × Nat) := [(0, .aload_n 0, 1, 0), (1, .getfield 26, 4, 0), (4, .ifCond .ne 7, 7, 11), (7, .iconst 0, 8, 0), (8, .goto 14, 11, 22), (11, .aload_n 0, 12, 0), (12, .getfield 15, 15, 0), (15, .aload_n 0, 16, 0), (16, .getfield 26, 19, 0), (19, .iconst 1, 20, 0), (20, .isub, 21, 0), (21, .iaload, 22, 0), (22, .istore_n 3, 23, 0), (23, .aload_n 0, 24, 0), (24, .getfield 26, 27, 0), (27, .iconst 4, 28, 0), (28, .if_icmp .ge 25, 31, 53), (31, .iload_n 1, 32, 0), (32, .iload_n 3, 33, 0), (33, .if_icmp .le 20, 36, 53), (36, .iload_n 1, 37, 0), (37, .ldc 25, 39, 0), (39, .if_icmp .gt 14, 42, 53), (42, .iload_n 2, 43, 0), (43, .iconst 1, 44, 0), (44, .if_icmp .lt 9, 47, 53), (47, .iload_n 2, 48, 0), (48, .ldc 25, 50, 0), (50, .if_icmp .le 9, 53, 59), (53, .aload_n 0, 54, 0)]
def tb_Gr_addStep_2 : List (Nat × Instr × Nat × Nat) := [(54, .iconst 0, 55, 0), (55, .putfield 21, 58, 0), (58, .return_, 59, 0), (59, .aload_n 0, 60, 0), (60, .getfield 15, 63, 0), (63, .aload_n 0, 64, 0), (64, .getfield 26, 67, 0), (67, .iload_n 1, 68, 0), (68, .iastore, 69, 0), (69, .aload_n 0, 70, 0), (70, .getfield 18, 73, 0), (73, .aload_n 0, 74, 0), (74, .getfield 26, 77, 0), (77, .iload_n 2, 78, 0), (78, .iastore, 79, 0), (79, .aload_n 0, 80, 0), (80, .dup, 81, 0), (81, .getfield 26, 84, 0), (84, .iconst 1, 85, 0), (85, .iadd, 86, 0), (86, .putfield 26, 89, 0), (89, .return_, 90, 0)]
def tb_Gr_addStep : List (Nat × Instr × Nat × Nat) := tb_Gr_addStep_1 ++ tb_Gr_addStep_2
def M_Gr_addStep : ax_M := (3, none, tb_Gr_addStep, [], false)
def m_Gr_addStep : Nat := 39
def tb_Gr_setDays : List (Nat × Instr × Nat × Nat) := [(0, .iload_n 1, 1, 0), (1, .sipush 1000, 4, 0), (4, .if_icmp .le 9, 7, 13), (7, .aload_n 0, 8, 0), (8, .iconst 0, 9, 0), (9, .putfield 21, 12, 0), (12, .return_, 13, 0), (13, .aload_n 0, 14, 0), (14, .iload_n 1, 15, 0), (15, .putfield 30, 18, 0), (18, .return_, 19, 0)]
def M_Gr_setDays : ax_M := (3, none, tb_Gr_setDays, [], false)
def m_Gr_setDays : Nat := 40
def tb_Gr_excess : List (Nat × Instr × Nat × Nat) := [(0, .iload_n 1, 1, 0), (1, .ifCond .lt 9, 4, 10), (4, .iload_n 1, 5, 0), (5, .bipush 6, 7, 0), (7, .if_icmp .lt 5, 10, 12), (10, .iconst 0, 11, 0), (11, .ireturn, 12, 0), (12, .iload_n 2, 13, 0), (13, .aload_n 0, 14, 0), (14, .getfield 9, 17, 0), (17, .iload_n 1, 18, 0), (18, .iaload, 19, 0), (19, .isub, 20, 0), (20, .istore_n 3, 21, 0), (21, .iload_n 1, 22, 0), (22, .iconst 4, 23, 0), (23, .if_icmp .ge 8, 26, 31), (26, .iload_n 3, 27, 0), (27, .ineg, 28, 0), (28, .goto 4, 31, 32), (31, .iload_n 3, 32, 0), (32, .ireturn, 33, 0)]
def M_Gr_excess : ax_M := (3, (some .int), tb_Gr_excess, [], false)
def m_Gr_excess : Nat := 41
def tb_Gr_priceOf_1 : List (Nat × Instr × Nat × Nat) := [(0, .lload_n 1, 1, 0), (1, .aload_n 0, 2, 0), (2, .getfield 15, 5, 0), (5, .iconst 0, 6, 0), (6, .iaload, 7, 0), (7, .i2l, 8, 0), (8, .invokestatic 33, 11, 0), (11, .lstore_n 3, 12, 0), (12, .aload_n 0, 13, 0), (13, .getfield 18, 16, 0), (16, .iconst 0, 17, 0), (17, .iaload, 18, 0), (18, .i2l, 19, 0), (19, .lstore 5, 21, 0), (21, .iconst 1, 22, 0), (22, .istore 7, 24, 0), (24, .iload 7, 26, 0), (26, .aload_n 0, 27, 0), (27, .getfield 26, 30, 0), (30, .if_icmp .ge 32, 33, 62), (33, .aload_n 0, 34, 0), (34, .getfield 15, 37, 0), (37, .iload 7, 39, 0), (39, .iaload, 40, 0), (40, .i2l, 41, 0), (41, .lload_n 3, 42, 0), (42, .lcmp, 43, 0), (43, .ifCond .gt 13, 46, 56), (46, .aload_n 0, 47, 0), (47, .getfield 18, 50, 0)]
def tb_Gr_priceOf_2 : List (Nat × Instr × Nat × Nat) := [(50, .iload 7, 52, 0), (52, .iaload, 53, 0), (53, .i2l, 54, 0), (54, .lstore 5, 56, 0), (56, .iinc 7 1, 59, 0), (59, .goto (-35), 62, 24), (62, .lload_n 3, 63, 0), (63, .lload 5, 65, 0), (65, .lmul, 66, 0), (66, .lreturn, 67, 0)]
def tb_Gr_priceOf : List (Nat × Instr × Nat × Nat) := tb_Gr_priceOf_1 ++ tb_Gr_priceOf_2
def M_Gr_priceOf : ax_M := (3, (some .long), tb_Gr_priceOf, [], false)
def m_Gr_priceOf : Nat := 42
def tb_Of_init : List (Nat × Instr × Nat × Nat) := [(0, .aload_n 0, 1, 0), (1, .invokespecial 3, 4, 0), (4, .aload_n 0, 5, 0), (5, .iconst 4, 6, 0), (6, .anewarray 9, 9, 0), (9, .putfield 11, 12, 0), (12, .return_, 13, 0)]
def M_Of_init : ax_M := (4, none, tb_Of_init, [], true)
def m_Of_init : Nat := 43
def tb_Of_add : List (Nat × Instr × Nat × Nat) := [(0, .aload_n 0, 1, 0), (1, .getfield 17, 4, 0), (4, .iconst 4, 5, 0), (5, .if_icmp .lt 5, 8, 10), (8, .iconst 0, 9, 0), (9, .ireturn, 10, 0), (10, .aload_n 0, 11, 0), (11, .getfield 11, 14, 0), (14, .aload_n 0, 15, 0), (15, .getfield 17, 18, 0), (18, .aload_n 1, 19, 0), (19, .aastore, 20, 0), (20, .aload_n 0, 21, 0), (21, .dup, 22, 0), (22, .getfield 17, 25, 0), (25, .iconst 1, 26, 0), (26, .iadd, 27, 0), (27, .putfield 17, 30, 0), (30, .iconst 1, 31, 0), (31, .ireturn, 32, 0)]
def M_Of_add : ax_M := (4, (some .boolean), tb_Of_add, [], false)
def m_Of_add : Nat := 44
def tb_Of_gradeAt : List (Nat × Instr × Nat × Nat) := [(0, .iload_n 1, 1, 0), (1, .ifCond .lt 11, 4, 12), (4, .iload_n 1, 5, 0), (5, .aload_n 0, 6, 0), (6, .getfield 17, 9, 0), (9, .if_icmp .lt 7, 12, 16), (12, .aconst_null, 13, 0), (13, .goto 9, 16, 22), (16, .aload_n 0, 17, 0), (17, .getfield 11, 20, 0), (20, .iload_n 1, 21, 0), (21, .aaload, 22, 0), (22, .areturn, 23, 0)]
def M_Of_gradeAt : ax_M := (4, (some (.object "MakingLimits$Grade")), tb_Of_gradeAt, [], false)
def m_Of_gradeAt : Nat := 45
def tb_Of_leastFor : List (Nat × Instr × Nat × Nat) := [(0, .iconst 0, 1, 0), (1, .istore_n 2, 2, 0), (2, .iload_n 2, 3, 0), (3, .aload_n 0, 4, 0), (4, .getfield 17, 7, 0), (7, .if_icmp .ge 29, 10, 36), (10, .aload_n 0, 11, 0), (11, .iload_n 2, 12, 0), (12, .invokevirtual 21, 15, 0), (15, .astore_n 3, 16, 0), (16, .aload_n 3, 17, 0), (17, .ifnull 13, 20, 30), (20, .aload_n 1, 21, 0), (21, .aload_n 3, 22, 0), (22, .invokevirtual 25, 25, 0), (25, .ifCond .eq 5, 28, 30), (28, .iload_n 2, 29, 0), (29, .ireturn, 30, 0), (30, .iinc 2 1, 33, 0), (33, .goto (-31), 36, 2), (36, .iconst (-1), 37, 0), (37, .ireturn, 38, 0)]
def M_Of_leastFor : ax_M := (4, (some .int), tb_Of_leastFor, [], false)
def m_Of_leastFor : Nat := 46
def tb_Or_init : List (Nat × Instr × Nat × Nat) := [(0, .aload_n 0, 1, 0), (1, .invokespecial 3, 4, 0), (4, .aload_n 0, 5, 0), (5, .sipush 140, 8, 0), (8, .newarray .int, 10, 0), (10, .putfield 11, 13, 0), (13, .return_, 14, 0)]
def M_Or_init : ax_M := (5, none, tb_Or_init, [], true)
def m_Or_init : Nat := 47
def tb_Or_add_1 : List (Nat × Instr × Nat × Nat) := [(0, .aload_n 0, 1, 0), (1, .getfield 15, 4, 0), (4, .bipush 20, 6, 0), (6, .if_icmp .lt 5, 9, 11), (9, .iconst (-1), 10, 0), (10, .ireturn, 11, 0), (11, .aload_n 0, 12, 0), (12, .getfield 15, 15, 0), (15, .bipush 7, 17, 0), (17, .imul, 18, 0), (18, .istore 8, 20, 0), (20, .aload_n 0, 21, 0), (21, .getfield 11, 24, 0), (24, .iload 8, 26, 0), (26, .iload_n 1, 27, 0), (27, .iastore, 28, 0), (28, .aload_n 0, 29, 0), (29, .getfield 11, 32, 0), (32, .iload 8, 34, 0), (34, .iconst 1, 35, 0), (35, .iadd, 36, 0), (36, .iload_n 2, 37, 0), (37, .iastore, 38, 0), (38, .aload_n 0, 39, 0), (39, .getfield 11, 42, 0), (42, .iload 8, 44, 0), (44, .iconst 2, 45, 0), (45, .iadd, 46, 0), (46, .iload_n 3, 47, 0), (47, .iastore, 48, 0)]
def tb_Or_add_2 : List (Nat × Instr × Nat × Nat) := [(48, .aload_n 0, 49, 0), (49, .getfield 11, 52, 0), (52, .iload 8, 54, 0), (54, .iconst 3, 55, 0), (55, .iadd, 56, 0), (56, .iload 4, 58, 0), (58, .iastore, 59, 0), (59, .aload_n 0, 60, 0), (60, .getfield 11, 63, 0), (63, .iload 8, 65, 0), (65, .iconst 4, 66, 0), (66, .iadd, 67, 0), (67, .lload 5, 69, 0), (69, .ldc2_w 19, 72, 0), (72, .ldiv, 73, 0), (73, .l2i, 74, 0), (74, .iastore, 75, 0), (75, .aload_n 0, 76, 0), (76, .getfield 11, 79, 0), (79, .iload 8, 81, 0), (81, .iconst 5, 82, 0), (82, .iadd, 83, 0), (83, .lload 5, 85, 0), (85, .ldc2_w 19, 88, 0), (88, .lrem, 89, 0), (89, .l2i, 90, 0), (90, .iastore, 91, 0), (91, .aload_n 0, 92, 0), (92, .getfield 11, 95, 0), (95, .iload 8, 97, 0)]
def tb_Or_add_3 : List (Nat × Instr × Nat × Nat) := [(97, .bipush 6, 99, 0), (99, .iadd, 100, 0), (100, .iload 7, 102, 0), (102, .iastore, 103, 0), (103, .aload_n 0, 104, 0), (104, .dup, 105, 0), (105, .getfield 15, 108, 0), (108, .iconst 1, 109, 0), (109, .iadd, 110, 0), (110, .putfield 15, 113, 0), (113, .aload_n 0, 114, 0), (114, .getfield 15, 117, 0), (117, .iconst 1, 118, 0), (118, .isub, 119, 0), (119, .ireturn, 120, 0)]
def tb_Or_add : List (Nat × Instr × Nat × Nat) := tb_Or_add_1 ++ (tb_Or_add_2 ++ tb_Or_add_3)
def M_Or_add : ax_M := (5, (some .int), tb_Or_add, [], false)
def m_Or_add : Nat := 48
def tb_Or_hasNo : List (Nat × Instr × Nat × Nat) := [(0, .iload_n 1, 1, 0), (1, .ifCond .lt 11, 4, 12), (4, .iload_n 1, 5, 0), (5, .aload_n 0, 6, 0), (6, .getfield 15, 9, 0), (9, .if_icmp .lt 7, 12, 16), (12, .iconst 1, 13, 0), (13, .goto 4, 16, 17), (16, .iconst 0, 17, 0), (17, .ireturn, 18, 0)]
def M_Or_hasNo : ax_M := (5, (some .boolean), tb_Or_hasNo, [], false)
def m_Or_hasNo : Nat := 49
def tb_Or_part : List (Nat × Instr × Nat × Nat) := [(0, .aload_n 0, 1, 0), (1, .iload_n 1, 2, 0), (2, .invokevirtual 21, 5, 0), (5, .ifCond .ne 13, 8, 18), (8, .iload_n 2, 9, 0), (9, .ifCond .lt 9, 12, 18), (12, .iload_n 2, 13, 0), (13, .bipush 7, 15, 0), (15, .if_icmp .lt 7, 18, 22), (18, .iconst (-1), 19, 0), (19, .goto 14, 22, 33), (22, .aload_n 0, 23, 0), (23, .getfield 11, 26, 0), (26, .iload_n 1, 27, 0), (27, .bipush 7, 29, 0), (29, .imul, 30, 0), (30, .iload_n 2, 31, 0), (31, .iadd, 32, 0), (32, .iaload, 33, 0), (33, .ireturn, 34, 0)]
def M_Or_part : ax_M := (5, (some .int), tb_Or_part, [], false)
def m_Or_part : Nat := 50
def tb_Or_forget : List (Nat × Instr × Nat × Nat) := [(0, .aload_n 0, 1, 0), (1, .iconst 0, 2, 0), (2, .putfield 15, 5, 0), (5, .return_, 6, 0)]
def M_Or_forget : ax_M := (5, none, tb_Or_forget, [], false)
def m_Or_forget : Nat := 51
def tb_Qu_init : List (Nat × Instr × Nat × Nat) := [(0, .aload_n 0, 1, 0), (1, .invokespecial 3, 4, 0), (4, .aload_n 0, 5, 0), (5, .bipush 10, 7, 0), (7, .newarray .int, 9, 0), (9, .putfield 11, 12, 0), (12, .aload_n 0, 13, 0), (13, .bipush 10, 15, 0), (15, .anewarray 15, 18, 0), (18, .putfield 17, 21, 0), (21, .aload_n 0, 22, 0), (22, .bipush 10, 24, 0), (24, .newarray .long, 26, 0), (26, .putfield 21, 29, 0), (29, .return_, 30, 0)]
def M_Qu_init : ax_M := (6, none, tb_Qu_init, [], true)
def m_Qu_init : Nat := 52
def tb_Qu_add_1 : List (Nat × Instr × Nat × Nat) := [(0, .aload_n 0, 1, 0), (1, .getfield 25, 4, 0), (4, .bipush 10, 6, 0), (6, .if_icmp .lt 5, 9, 11), (9, .iconst (-1), 10, 0), (10, .ireturn, 11, 0), (11, .aload_n 0, 12, 0), (12, .getfield 11, 15, 0), (15, .aload_n 0, 16, 0), (16, .getfield 25, 19, 0), (19, .iload_n 1, 20, 0), (20, .iastore, 21, 0), (21, .aload_n 0, 22, 0), (22, .getfield 17, 25, 0), (25, .aload_n 0, 26, 0), (26, .getfield 25, 29, 0), (29, .aload_n 2, 30, 0), (30, .aastore, 31, 0), (31, .aload_n 0, 32, 0), (32, .getfield 21, 35, 0), (35, .aload_n 0, 36, 0), (36, .getfield 25, 39, 0), (39, .lload_n 3, 40, 0), (40, .lastore, 41, 0), (41, .aload_n 0, 42, 0), (42, .dup, 43, 0), (43, .getfield 25, 46, 0), (46, .iconst 1, 47, 0), (47, .iadd, 48, 0), (48, .putfield 25, 51, 0)]
def tb_Qu_add_2 : List (Nat × Instr × Nat × Nat) := [(51, .aload_n 0, 52, 0), (52, .getfield 25, 55, 0), (55, .iconst 1, 56, 0), (56, .isub, 57, 0), (57, .ireturn, 58, 0)]
def tb_Qu_add : List (Nat × Instr × Nat × Nat) := tb_Qu_add_1 ++ tb_Qu_add_2
def M_Qu_add : ax_M := (6, (some .int), tb_Qu_add, [], false)
def m_Qu_add : Nat := 53
def tb_Qu_latest : List (Nat × Instr × Nat × Nat) := [(0, .aload_n 0, 1, 0), (1, .getfield 25, 4, 0), (4, .iconst 1, 5, 0), (5, .isub, 6, 0), (6, .istore 4, 8, 0), (8, .iload 4, 10, 0), (10, .ifCond .lt 35, 13, 45), (13, .aload_n 0, 14, 0), (14, .getfield 11, 17, 0), (17, .iload 4, 19, 0), (19, .iaload, 20, 0), (20, .iload_n 1, 21, 0), (21, .if_icmp .ne 18, 24, 39), (24, .aload_n 0, 25, 0), (25, .getfield 21, 28, 0), (28, .iload 4, 30, 0), (30, .laload, 31, 0), (31, .lload_n 2, 32, 0), (32, .lcmp, 33, 0), (33, .ifCond .lt 6, 36, 39), (36, .iload 4, 38, 0), (38, .ireturn, 39, 0), (39, .iinc 4 (-1), 42, 0), (42, .goto (-34), 45, 8), (45, .iconst (-1), 46, 0), (46, .ireturn, 47, 0)]
def M_Qu_latest : ax_M := (6, (some .int), tb_Qu_latest, [], false)
def m_Qu_latest : Nat := 54
def tb_Qu_offerAt : List (Nat × Instr × Nat × Nat) := [(0, .iload_n 1, 1, 0), (1, .ifCond .lt 11, 4, 12), (4, .iload_n 1, 5, 0), (5, .aload_n 0, 6, 0), (6, .getfield 25, 9, 0), (9, .if_icmp .lt 7, 12, 16), (12, .aconst_null, 13, 0), (13, .goto 9, 16, 22), (16, .aload_n 0, 17, 0), (17, .getfield 17, 20, 0), (20, .iload_n 1, 21, 0), (21, .aaload, 22, 0), (22, .areturn, 23, 0)]
def M_Qu_offerAt : ax_M := (6, (some (.object "MakingLimits$Offer")), tb_Qu_offerAt, [], false)
def m_Qu_offerAt : Nat := 55
def tb_Qu_forget : List (Nat × Instr × Nat × Nat) := [(0, .aload_n 0, 1, 0), (1, .iconst 0, 2, 0), (2, .putfield 25, 5, 0), (5, .return_, 6, 0)]
def M_Qu_forget : ax_M := (6, none, tb_Qu_forget, [], false)
def m_Qu_forget : Nat := 56
def tb_Re_init : List (Nat × Instr × Nat × Nat) := [(0, .aload_n 0, 1, 0), (1, .invokespecial 3, 4, 0), (4, .aload_n 0, 5, 0), (5, .bipush 60, 7, 0), (7, .newarray .int, 9, 0), (9, .putfield 11, 12, 0), (12, .aload_n 0, 13, 0), (13, .bipush 60, 15, 0), (15, .newarray .int, 17, 0), (17, .putfield 17, 20, 0), (20, .return_, 21, 0)]
def M_Re_init : ax_M := (7, none, tb_Re_init, [], true)
def m_Re_init : Nat := 57
def tb_Re_collect_1 : List (Nat × Instr × Nat × Nat) := [(0, .aload_n 0, 1, 0), (1, .iconst 0, 2, 0), (2, .putfield 20, 5, 0), (5, .iconst 0, 6, 0), (6, .istore_n 3, 7, 0), (7, .iload_n 3, 8, 0), (8, .bipush 60, 10, 0), (10, .if_icmp .ge 53, 13, 63), (13, .aload_n 1, 14, 0), (14, .iload_n 3, 15, 0), (15, .aload_n 2, 16, 0), (16, .invokevirtual 24, 19, 0), (19, .istore 4, 21, 0), (21, .iload 4, 23, 0), (23, .ifCond .le 34, 26, 57), (26, .aload_n 0, 27, 0), (27, .getfield 11, 30, 0), (30, .aload_n 0, 31, 0), (31, .getfield 20, 34, 0), (34, .iload_n 3, 35, 0), (35, .iastore, 36, 0), (36, .aload_n 0, 37, 0), (37, .getfield 17, 40, 0), (40, .aload_n 0, 41, 0), (41, .getfield 20, 44, 0), (44, .iload 4, 46, 0), (46, .iastore, 47, 0), (47, .aload_n 0, 48, 0), (48, .dup, 49, 0), (49, .getfield 20, 52, 0)]
def tb_Re_collect_2 : List (Nat × Instr × Nat × Nat) := [(52, .iconst 1, 53, 0), (53, .iadd, 54, 0), (54, .putfield 20, 57, 0), (57, .iinc 3 1, 60, 0), (60, .goto (-53), 63, 7), (63, .aload_n 0, 64, 0), (64, .getfield 20, 67, 0), (67, .ireturn, 68, 0)]
def tb_Re_collect : List (Nat × Instr × Nat × Nat) := tb_Re_collect_1 ++ tb_Re_collect_2
def M_Re_collect : ax_M := (7, (some .int), tb_Re_collect, [], false)
def m_Re_collect : Nat := 58
def tb_Re_thingOf : List (Nat × Instr × Nat × Nat) := [(0, .iload_n 1, 1, 0), (1, .ifCond .lt 11, 4, 12), (4, .iload_n 1, 5, 0), (5, .aload_n 0, 6, 0), (6, .getfield 20, 9, 0), (9, .if_icmp .lt 7, 12, 16), (12, .iconst (-1), 13, 0), (13, .goto 9, 16, 22), (16, .aload_n 0, 17, 0), (17, .getfield 11, 20, 0), (20, .iload_n 1, 21, 0), (21, .iaload, 22, 0), (22, .ireturn, 23, 0)]
def M_Re_thingOf : ax_M := (7, (some .int), tb_Re_thingOf, [], false)
def m_Re_thingOf : Nat := 59
def tb_Re_excessOf : List (Nat × Instr × Nat × Nat) := [(0, .iload_n 1, 1, 0), (1, .ifCond .lt 11, 4, 12), (4, .iload_n 1, 5, 0), (5, .aload_n 0, 6, 0), (6, .getfield 20, 9, 0), (9, .if_icmp .lt 7, 12, 16), (12, .iconst (-1), 13, 0), (13, .goto 9, 16, 22), (16, .aload_n 0, 17, 0), (17, .getfield 17, 20, 0), (20, .iload_n 1, 21, 0), (21, .iaload, 22, 0), (22, .ireturn, 23, 0)]
def M_Re_excessOf : ax_M := (7, (some .int), tb_Re_excessOf, [], false)
def m_Re_excessOf : Nat := 60
def tb_Re_forget : List (Nat × Instr × Nat × Nat) := [(0, .aload_n 0, 1, 0), (1, .iconst 0, 2, 0), (2, .putfield 20, 5, 0), (5, .return_, 6, 0)]
def M_Re_forget : ax_M := (7, none, tb_Re_forget, [], false)
def m_Re_forget : Nat := 61
def tb_Tx_init : List (Nat × Instr × Nat × Nat) := [(0, .aload_n 0, 1, 0), (1, .invokespecial 3, 4, 0), (4, .aload_n 0, 5, 0), (5, .sipush 400, 8, 0), (8, .newarray .char, 10, 0), (10, .putfield 11, 13, 0), (13, .return_, 14, 0)]
def M_Tx_init : ax_M := (8, none, tb_Tx_init, [], true)
def m_Tx_init : Nat := 62
def tb_Tx_add : List (Nat × Instr × Nat × Nat) := [(0, .iload_n 1, 1, 0), (1, .bipush 32, 3, 0), (3, .if_icmp .lt 19, 6, 22), (6, .iload_n 1, 7, 0), (7, .bipush 126, 9, 0), (9, .if_icmp .gt 13, 12, 22), (12, .aload_n 0, 13, 0), (13, .getfield 15, 16, 0), (16, .sipush 400, 19, 0), (19, .if_icmp .lt 5, 22, 24), (22, .iconst 0, 23, 0), (23, .ireturn, 24, 0), (24, .aload_n 0, 25, 0), (25, .getfield 11, 28, 0), (28, .aload_n 0, 29, 0), (29, .getfield 15, 32, 0), (32, .iload_n 1, 33, 0), (33, .i2c, 34, 0), (34, .castore, 35, 0), (35, .aload_n 0, 36, 0), (36, .dup, 37, 0), (37, .getfield 15, 40, 0), (40, .iconst 1, 41, 0), (41, .iadd, 42, 0), (42, .putfield 15, 45, 0), (45, .iconst 1, 46, 0), (46, .ireturn, 47, 0)]
def M_Tx_add : ax_M := (8, (some .boolean), tb_Tx_add, [], false)
def m_Tx_add : Nat := 63
def tb_Tx_forget : List (Nat × Instr × Nat × Nat) := [(0, .aload_n 0, 1, 0), (1, .iconst 0, 2, 0), (2, .putfield 15, 5, 0), (5, .aload_n 0, 6, 0), (6, .iconst 0, 7, 0), (7, .putfield 19, 10, 0), (10, .return_, 11, 0)]
def M_Tx_forget : ax_M := (8, none, tb_Tx_forget, [], false)
def m_Tx_forget : Nat := 64
def tb_Tx_place : List (Nat × Instr × Nat × Nat) := [(0, .aload_n 0, 1, 0), (1, .getfield 19, 4, 0), (4, .ireturn, 5, 0)]
def M_Tx_place : ax_M := (8, (some .int), tb_Tx_place, [], false)
def m_Tx_place : Nat := 65
def tb_Tx_readNumber_1 : List (Nat × Instr × Nat × Nat) := [(0, .aload_n 0, 1, 0), (1, .iconst 0, 2, 0), (2, .putfield 19, 5, 0), (5, .aload_n 0, 6, 0), (6, .bipush 77, 8, 0), (8, .invokevirtual 22, 11, 0), (11, .ifCond .eq 13, 14, 24), (14, .aload_n 0, 15, 0), (15, .invokevirtual 26, 18, 0), (18, .invokestatic 30, 21, 0), (21, .ifCond .ne 5, 24, 26), (24, .iconst (-1), 25, 0), (25, .ireturn, 26, 0), (26, .aload_n 0, 27, 0), (27, .invokevirtual 26, 30, 0), (30, .bipush 48, 32, 0), (32, .isub, 33, 0), (33, .istore_n 2, 34, 0), (34, .iload_n 2, 35, 0), (35, .iload_n 1, 36, 0), (36, .if_icmp .gt 8, 39, 44), (39, .iload_n 2, 40, 0), (40, .iconst 4, 41, 0), (41, .if_icmp .lt 10, 44, 51), (44, .aload_n 0, 45, 0), (45, .iconst 0, 46, 0), (46, .putfield 19, 49, 0), (49, .iconst (-1), 50, 0), (50, .ireturn, 51, 0), (51, .aload_n 0, 52, 0)]
def tb_Tx_readNumber_2 : List (Nat × Instr × Nat × Nat) := [(52, .dup, 53, 0), (53, .getfield 19, 56, 0), (56, .iconst 1, 57, 0), (57, .iadd, 58, 0), (58, .putfield 19, 61, 0), (61, .iload_n 2, 62, 0), (62, .ireturn, 63, 0)]
def tb_Tx_readNumber : List (Nat × Instr × Nat × Nat) := tb_Tx_readNumber_1 ++ tb_Tx_readNumber_2
def M_Tx_readNumber : ax_M := (8, (some .int), tb_Tx_readNumber, [], false)
def m_Tx_readNumber : Nat := 66
def tb_Tx_readOffer_1 : List (Nat × Instr × Nat × Nat) := [(0, .new 34, 3, 0), (3, .dup, 4, 0), (4, .invokespecial 36, 7, 0), (7, .astore_n 1, 8, 0), (8, .iconst 0, 9, 0), (9, .istore_n 2, 10, 0), (10, .iload_n 2, 11, 0), (11, .iconst 4, 12, 0), (12, .if_icmp .gt 64, 15, 76), (15, .aload_n 0, 16, 0), (16, .getfield 19, 19, 0), (19, .istore_n 3, 20, 0), (20, .aload_n 0, 21, 0), (21, .invokevirtual 37, 24, 0), (24, .astore 4, 26, 0), (26, .aload 4, 28, 0), (28, .ifnonnull 5, 31, 33), (31, .aconst_null, 32, 0), (32, .areturn, 33, 0), (33, .aload 4, 35, 0), (35, .getfield 41, 38, 0), (38, .ifCond .eq 12, 41, 50), (41, .aload_n 1, 42, 0), (42, .aload 4, 44, 0), (44, .invokevirtual 47, 47, 0), (47, .ifCond .ne 10, 50, 57), (50, .aload_n 0, 51, 0), (51, .iload_n 3, 52, 0), (52, .putfield 19, 55, 0), (55, .aconst_null, 56, 0)]
def tb_Tx_readOffer_2 : List (Nat × Instr × Nat × Nat) := [(56, .areturn, 57, 0), (57, .aload_n 0, 58, 0), (58, .getfield 19, 61, 0), (61, .aload_n 0, 62, 0), (62, .getfield 15, 65, 0), (65, .if_icmp .lt 5, 68, 70), (68, .aload_n 1, 69, 0), (69, .areturn, 70, 0), (70, .iinc 2 1, 73, 0), (73, .goto (-63), 76, 10), (76, .aconst_null, 77, 0), (77, .areturn, 78, 0)]
def tb_Tx_readOffer : List (Nat × Instr × Nat × Nat) := tb_Tx_readOffer_1 ++ tb_Tx_readOffer_2
def M_Tx_readOffer : ax_M := (8, (some (.object "MakingLimits$Offer")), tb_Tx_readOffer, [], false)
def m_Tx_readOffer : Nat := 67
def tb_Tx_readGrade_1 : List (Nat × Instr × Nat × Nat) := [(0, .aload_n 0, 1, 0), (1, .bipush 67, 3, 0), (3, .invokevirtual 22, 6, 0), (6, .ifCond .ne 5, 9, 11), (9, .aconst_null, 10, 0), (10, .areturn, 11, 0), (11, .new 42, 14, 0), (14, .dup, 15, 0), (15, .invokespecial 51, 18, 0), (18, .astore_n 1, 19, 0), (19, .aload_n 0, 20, 0), (20, .aload_n 1, 21, 0), (21, .invokevirtual 52, 24, 0), (24, .ifCond .eq 50, 27, 74), (27, .aload_n 0, 28, 0), (28, .bipush 58, 30, 0), (30, .invokevirtual 22, 33, 0), (33, .ifCond .eq 41, 36, 74), (36, .aload_n 0, 37, 0), (37, .aload_n 1, 38, 0), (38, .invokevirtual 55, 41, 0), (41, .ifCond .eq 33, 44, 74), (44, .aload_n 0, 45, 0), (45, .bipush 47, 47, 0), (47, .invokevirtual 22, 50, 0), (50, .ifCond .eq 24, 53, 74), (53, .aload_n 0, 54, 0), (54, .aload_n 1, 55, 0), (55, .invokevirtual 58, 58, 0), (58, .ifCond .eq 16, 61, 74)]
def tb_Tx_readGrade_2 : List (Nat × Instr × Nat × Nat) := [(61, .aload_n 0, 62, 0), (62, .bipush 59, 64, 0), (64, .invokevirtual 22, 67, 0), (67, .ifCond .eq 7, 70, 74), (70, .iconst 1, 71, 0), (71, .goto 4, 74, 75), (74, .iconst 0, 75, 0), (75, .istore_n 2, 76, 0), (76, .iload_n 2, 77, 0), (77, .ifCond .eq 7, 80, 84), (80, .aload_n 1, 81, 0), (81, .goto 4, 84, 85), (84, .aconst_null, 85, 0), (85, .areturn, 86, 0)]
def tb_Tx_readGrade : List (Nat × Instr × Nat × Nat) := tb_Tx_readGrade_1 ++ tb_Tx_readGrade_2
def M_Tx_readGrade : ax_M := (8, (some (.object "MakingLimits$Grade")), tb_Tx_readGrade, [], false)
def m_Tx_readGrade : Nat := 68
def tb_Tx_readLimits : List (Nat × Instr × Nat × Nat) := [(0, .iconst 0, 1, 0), (1, .istore_n 2, 2, 0), (2, .iload_n 2, 3, 0), (3, .bipush 6, 5, 0), (5, .if_icmp .ge 42, 8, 47), (8, .iload_n 2, 9, 0), (9, .ifCond .le 14, 12, 23), (12, .aload_n 0, 13, 0), (13, .bipush 44, 15, 0), (15, .invokevirtual 22, 18, 0), (18, .ifCond .ne 5, 21, 23), (21, .iconst 0, 22, 0), (22, .ireturn, 23, 0), (23, .aload_n 0, 24, 0), (24, .invokevirtual 61, 27, 0), (27, .istore_n 3, 28, 0), (28, .iload_n 3, 29, 0), (29, .iconst (-1), 30, 0), (30, .if_icmp .ne 5, 33, 35), (33, .iconst 0, 34, 0), (34, .ireturn, 35, 0), (35, .aload_n 1, 36, 0), (36, .iload_n 2, 37, 0), (37, .iload_n 3, 38, 0), (38, .invokevirtual 64, 41, 0), (41, .iinc 2 1, 44, 0), (44, .goto (-42), 47, 2), (47, .iconst 1, 48, 0), (48, .ireturn, 49, 0)]
def M_Tx_readLimits : ax_M := (8, (some .boolean), tb_Tx_readLimits, [], false)
def m_Tx_readLimits : Nat := 69
def tb_Tx_readSteps_1 : List (Nat × Instr × Nat × Nat) := [(0, .iconst 0, 1, 0), (1, .istore_n 2, 2, 0), (2, .iload_n 2, 3, 0), (3, .sipush 400, 6, 0), (6, .if_icmp .ge 62, 9, 68), (9, .aload_n 0, 10, 0), (10, .invokevirtual 61, 13, 0), (13, .istore_n 3, 14, 0), (14, .iload_n 3, 15, 0), (15, .iconst (-1), 16, 0), (16, .if_icmp .eq 12, 19, 28), (19, .aload_n 0, 20, 0), (20, .bipush 64, 22, 0), (22, .invokevirtual 22, 25, 0), (25, .ifCond .ne 5, 28, 30), (28, .iconst 0, 29, 0), (29, .ireturn, 30, 0), (30, .aload_n 0, 31, 0), (31, .invokevirtual 61, 34, 0), (34, .istore 4, 36, 0), (36, .iload 4, 38, 0), (38, .iconst (-1), 39, 0), (39, .if_icmp .ne 5, 42, 44), (42, .iconst 0, 43, 0), (43, .ireturn, 44, 0), (44, .aload_n 1, 45, 0), (45, .iload_n 3, 46, 0), (46, .iload 4, 48, 0), (48, .invokevirtual 68, 51, 0), (51, .aload_n 0, 52, 0)]
def tb_Tx_readSteps_2 : List (Nat × Instr × Nat × Nat) := [(52, .bipush 44, 54, 0), (54, .invokevirtual 22, 57, 0), (57, .ifCond .ne 5, 60, 62), (60, .iconst 1, 61, 0), (61, .ireturn, 62, 0), (62, .iinc 2 1, 65, 0), (65, .goto (-63), 68, 2), (68, .iconst 0, 69, 0), (69, .ireturn, 70, 0)]
def tb_Tx_readSteps : List (Nat × Instr × Nat × Nat) := tb_Tx_readSteps_1 ++ tb_Tx_readSteps_2
def M_Tx_readSteps : ax_M := (8, (some .boolean), tb_Tx_readSteps, [], false)
def m_Tx_readSteps : Nat := 70
def tb_Tx_readDays : List (Nat × Instr × Nat × Nat) := [(0, .aload_n 0, 1, 0), (1, .invokevirtual 61, 4, 0), (4, .istore_n 2, 5, 0), (5, .iload_n 2, 6, 0), (6, .iconst (-1), 7, 0), (7, .if_icmp .ne 5, 10, 12), (10, .iconst 0, 11, 0), (11, .ireturn, 12, 0), (12, .aload_n 1, 13, 0), (13, .iload_n 2, 14, 0), (14, .invokevirtual 71, 17, 0), (17, .iconst 1, 18, 0), (18, .ireturn, 19, 0)]
def M_Tx_readDays : ax_M := (8, (some .boolean), tb_Tx_readDays, [], false)
def m_Tx_readDays : Nat := 71
def tb_Tx_readWhole_1 : List (Nat × Instr × Nat × Nat) := [(0, .aload_n 0, 1, 0), (1, .invokevirtual 26, 4, 0), (4, .invokestatic 30, 7, 0), (7, .ifCond .ne 5, 10, 12), (10, .iconst (-1), 11, 0), (11, .ireturn, 12, 0), (12, .iconst 0, 13, 0), (13, .istore_n 1, 14, 0), (14, .iconst 0, 15, 0), (15, .istore_n 2, 16, 0), (16, .iload_n 2, 17, 0), (17, .bipush 7, 19, 0), (19, .if_icmp .ge 42, 22, 61), (22, .aload_n 0, 23, 0), (23, .invokevirtual 26, 26, 0), (26, .invokestatic 30, 29, 0), (29, .ifCond .eq 32, 32, 61), (32, .iload_n 1, 33, 0), (33, .bipush 10, 35, 0), (35, .imul, 36, 0), (36, .aload_n 0, 37, 0), (37, .invokevirtual 26, 40, 0), (40, .bipush 48, 42, 0), (42, .isub, 43, 0), (43, .iadd, 44, 0), (44, .istore_n 1, 45, 0), (45, .aload_n 0, 46, 0), (46, .dup, 47, 0), (47, .getfield 19, 50, 0), (50, .iconst 1, 51, 0)]
def tb_Tx_readWhole_2 : List (Nat × Instr × Nat × Nat) := [(51, .iadd, 52, 0), (52, .putfield 19, 55, 0), (55, .iinc 2 1, 58, 0), (58, .goto (-42), 61, 16), (61, .iload_n 1, 62, 0), (62, .ireturn, 63, 0)]
def tb_Tx_readWhole : List (Nat × Instr × Nat × Nat) := tb_Tx_readWhole_1 ++ tb_Tx_readWhole_2
def M_Tx_readWhole : ax_M := (8, (some .int), tb_Tx_readWhole, [], false)
def m_Tx_readWhole : Nat := 72
def tb_Tx_passes : List (Nat × Instr × Nat × Nat) := [(0, .aload_n 0, 1, 0), (1, .invokevirtual 26, 4, 0), (4, .iload_n 1, 5, 0), (5, .if_icmp .eq 5, 8, 10), (8, .iconst 0, 9, 0), (9, .ireturn, 10, 0), (10, .aload_n 0, 11, 0), (11, .dup, 12, 0), (12, .getfield 19, 15, 0), (15, .iconst 1, 16, 0), (16, .iadd, 17, 0), (17, .putfield 19, 20, 0), (20, .iconst 1, 21, 0), (21, .ireturn, 22, 0)]
def M_Tx_passes : ax_M := (8, (some .boolean), tb_Tx_passes, [], false)
def m_Tx_passes : Nat := 73
def tb_Tx_next : List (Nat × Instr × Nat × Nat) := [(0, .aload_n 0, 1, 0), (1, .getfield 19, 4, 0), (4, .ifCond .lt 14, 7, 18), (7, .aload_n 0, 8, 0), (8, .getfield 19, 11, 0), (11, .aload_n 0, 12, 0), (12, .getfield 15, 15, 0), (15, .if_icmp .lt 7, 18, 22), (18, .iconst (-1), 19, 0), (19, .goto 12, 22, 31), (22, .aload_n 0, 23, 0), (23, .getfield 11, 26, 0), (26, .aload_n 0, 27, 0), (27, .getfield 19, 30, 0), (30, .caload, 31, 0), (31, .ireturn, 32, 0)]
def M_Tx_next : ax_M := (8, (some .int), tb_Tx_next, [], false)
def m_Tx_next : Nat := 74
def tb_Tx_isDigit : List (Nat × Instr × Nat × Nat) := [(0, .iload_n 0, 1, 0), (1, .bipush 48, 3, 0), (3, .if_icmp .lt 13, 6, 16), (6, .iload_n 0, 7, 0), (7, .bipush 57, 9, 0), (9, .if_icmp .gt 7, 12, 16), (12, .iconst 1, 13, 0), (13, .goto 4, 16, 17), (16, .iconst 0, 17, 0), (17, .ireturn, 18, 0)]
def M_Tx_isDigit : ax_M := (8, (some .boolean), tb_Tx_isDigit, [], false)
def m_Tx_isDigit : Nat := 75
def tb_Mo_init_1 : List (Nat × Instr × Nat × Nat) := [(0, .aload_n 0, 1, 0), (1, .invokespecial 1, 4, 0), (4, .aload_n 0, 5, 0), (5, .sipush 400, 8, 0), (8, .newarray .int, 10, 0), (10, .putfield 7, 13, 0), (13, .aload_n 0, 14, 0), (14, .bipush 15, 16, 0), (16, .newarray .int, 18, 0), (18, .putfield 13, 21, 0), (21, .aload_n 0, 22, 0), (22, .sipush 960, 25, 0), (25, .newarray .long, 27, 0), (27, .putfield 16, 30, 0), (30, .aload_n 0, 31, 0), (31, .bipush 60, 33, 0), (33, .newarray .int, 35, 0), (35, .putfield 20, 38, 0), (38, .aload_n 0, 39, 0), (39, .bipush 60, 41, 0), (41, .newarray .long, 43, 0), (43, .putfield 23, 46, 0), (46, .aload_n 0, 47, 0), (47, .bipush 60, 49, 0), (49, .newarray .int, 51, 0), (51, .putfield 26, 54, 0), (54, .aload_n 0, 55, 0), (55, .bipush 60, 57, 0), (57, .newarray .long, 59, 0), (59, .putfield 29, 62, 0)]
def tb_Mo_init_2 : List (Nat × Instr × Nat × Nat) := [(62, .aload_n 0, 63, 0), (63, .bipush 60, 65, 0), (65, .newarray .long, 67, 0), (67, .putfield 32, 70, 0), (70, .aload_n 0, 71, 0), (71, .bipush 60, 73, 0), (73, .newarray .int, 75, 0), (75, .putfield 35, 78, 0), (78, .aload_n 0, 79, 0), (79, .bipush 60, 81, 0), (81, .newarray .long, 83, 0), (83, .putfield 38, 86, 0), (86, .aload_n 0, 87, 0), (87, .bipush 10, 89, 0), (89, .newarray .int, 91, 0), (91, .putfield 41, 94, 0), (94, .aload_n 0, 95, 0), (95, .bipush 10, 97, 0), (97, .newarray .long, 99, 0), (99, .putfield 44, 102, 0), (102, .aload_n 0, 103, 0), (103, .sipush 140, 106, 0), (106, .newarray .long, 108, 0), (108, .putfield 47, 111, 0), (111, .aload_n 0, 112, 0), (112, .sipush 128, 115, 0), (115, .newarray .long, 117, 0), (117, .putfield 50, 120, 0), (120, .aload_n 0, 121, 0), (121, .sipush 128, 124, 0)]
def tb_Mo_init_3 : List (Nat × Instr × Nat × Nat) := [(124, .newarray .long, 126, 0), (126, .putfield 53, 129, 0), (129, .aload_n 0, 130, 0), (130, .invokevirtual 56, 133, 0), (133, .return_, 134, 0)]
def tb_Mo_init : List (Nat × Instr × Nat × Nat) := tb_Mo_init_1 ++ (tb_Mo_init_2 ++ tb_Mo_init_3)
def M_Mo_init : ax_M := (9, none, tb_Mo_init, [], true)
def m_Mo_init : Nat := 76
def tb_Mo_empty_1 : List (Nat × Instr × Nat × Nat) := [(0, .aload_n 0, 1, 0), (1, .iconst 0, 2, 0), (2, .putfield 59, 5, 0), (5, .aload_n 0, 6, 0), (6, .iconst 0, 7, 0), (7, .putfield 63, 10, 0), (10, .aload_n 0, 11, 0), (11, .iconst 0, 12, 0), (12, .putfield 66, 15, 0), (15, .aload_n 0, 16, 0), (16, .iconst 0, 17, 0), (17, .putfield 69, 20, 0), (20, .aload_n 0, 21, 0), (21, .iconst 0, 22, 0), (22, .putfield 72, 25, 0), (25, .aload_n 0, 26, 0), (26, .iconst 0, 27, 0), (27, .putfield 75, 30, 0), (30, .iconst 0, 31, 0), (31, .istore_n 1, 32, 0), (32, .iload_n 1, 33, 0), (33, .sipush 128, 36, 0), (36, .if_icmp .ge 23, 39, 59), (39, .aload_n 0, 40, 0), (40, .getfield 50, 43, 0), (43, .iload_n 1, 44, 0), (44, .lconst 0, 45, 0), (45, .lastore, 46, 0), (46, .aload_n 0, 47, 0), (47, .getfield 53, 50, 0)]
def tb_Mo_empty_2 : List (Nat × Instr × Nat × Nat) := [(50, .iload_n 1, 51, 0), (51, .lconst 1, 52, 0), (52, .lastore, 53, 0), (53, .iinc 1 1, 56, 0), (56, .goto (-24), 59, 32), (59, .return_, 60, 0)]
def tb_Mo_empty : List (Nat × Instr × Nat × Nat) := tb_Mo_empty_1 ++ tb_Mo_empty_2
def M_Mo_empty : ax_M := (9, none, tb_Mo_empty, [], false)
def m_Mo_empty : Nat := 77
def tb_Mo_thrown : List (Nat × Instr × Nat × Nat) := [(0, .aload_n 0, 1, 0), (1, .getfield 78, 4, 0), (4, .ireturn, 5, 0)]
def M_Mo_thrown : ax_M := (9, (some .int), tb_Mo_thrown, [], false)
def m_Mo_thrown : Nat := 78
def tb_Mo_clear : List (Nat × Instr × Nat × Nat) := [(0, .aload_n 0, 1, 0), (1, .iconst 0, 2, 0), (2, .putfield 78, 5, 0), (5, .aload_n 0, 6, 0), (6, .invokevirtual 56, 9, 0), (9, .return_, 10, 0)]
def M_Mo_clear : ax_M := (9, none, tb_Mo_clear, [], false)
def m_Mo_clear : Nat := 79
def tb_Mo_unit : List (Nat × Instr × Nat × Nat) := [(0, .aload_n 0, 1, 0), (1, .iconst 0, 2, 0), (2, .putfield 78, 5, 0), (5, .iload_n 1, 6, 0), (6, .bipush 32, 8, 0), (8, .if_icmp .lt 19, 11, 27), (11, .iload_n 1, 12, 0), (12, .bipush 126, 14, 0), (14, .if_icmp .gt 13, 17, 27), (17, .aload_n 0, 18, 0), (18, .getfield 59, 21, 0), (21, .sipush 400, 24, 0), (24, .if_icmp .ne 5, 27, 29), (27, .iconst 0, 28, 0), (28, .ireturn, 29, 0), (29, .aload_n 0, 30, 0), (30, .getfield 7, 33, 0), (33, .aload_n 0, 34, 0), (34, .getfield 59, 37, 0), (37, .iload_n 1, 38, 0), (38, .iastore, 39, 0), (39, .aload_n 0, 40, 0), (40, .dup, 41, 0), (41, .getfield 59, 44, 0), (44, .iconst 1, 45, 0), (45, .iadd, 46, 0), (46, .putfield 59, 49, 0), (49, .iconst 1, 50, 0), (50, .ireturn, 51, 0)]
def M_Mo_unit : ax_M := (9, (some .boolean), tb_Mo_unit, [], false)
def m_Mo_unit : Nat := 80
def tb_Mo_now : List (Nat × Instr × Nat × Nat) := [(0, .aload_n 0, 1, 0), (1, .getfield 81, 4, 0), (4, .aload_n 0, 5, 0), (5, .getfield 59, 8, 0), (8, .if_icmp .ge 15, 11, 23), (11, .aload_n 0, 12, 0), (12, .getfield 7, 15, 0), (15, .aload_n 0, 16, 0), (16, .getfield 81, 19, 0), (19, .iaload, 20, 0), (20, .goto 4, 23, 24), (23, .iconst (-1), 24, 0), (24, .ireturn, 25, 0)]
def M_Mo_now : ax_M := (9, (some .int), tb_Mo_now, [], false)
def m_Mo_now : Nat := 81
def tb_Mo_expect : List (Nat × Instr × Nat × Nat) := [(0, .aload_n 0, 1, 0), (1, .getfield 84, 4, 0), (4, .iconst (-1), 5, 0), (5, .if_icmp .eq 4, 8, 9), (8, .return_, 9, 0), (9, .aload_n 0, 10, 0), (10, .invokevirtual 87, 13, 0), (13, .iload_n 1, 14, 0), (14, .if_icmp .ne 16, 17, 30), (17, .aload_n 0, 18, 0), (18, .dup, 19, 0), (19, .getfield 81, 22, 0), (22, .iconst 1, 23, 0), (23, .iadd, 24, 0), (24, .putfield 81, 27, 0), (27, .goto 11, 30, 38), (30, .aload_n 0, 31, 0), (31, .aload_n 0, 32, 0), (32, .getfield 81, 35, 0), (35, .putfield 84, 38, 0), (38, .return_, 39, 0)]
def M_Mo_expect : ax_M := (9, none, tb_Mo_expect, [], false)
def m_Mo_expect : Nat := 82
def tb_Mo_isDigit : List (Nat × Instr × Nat × Nat) := [(0, .aload_n 0, 1, 0), (1, .invokevirtual 87, 4, 0), (4, .bipush 48, 6, 0), (6, .if_icmp .lt 16, 9, 22), (9, .aload_n 0, 10, 0), (10, .invokevirtual 87, 13, 0), (13, .bipush 57, 15, 0), (15, .if_icmp .gt 7, 18, 22), (18, .iconst 1, 19, 0), (19, .goto 4, 22, 23), (22, .iconst 0, 23, 0), (23, .ireturn, 24, 0)]
def M_Mo_isDigit : ax_M := (9, (some .boolean), tb_Mo_isDigit, [], false)
def m_Mo_isDigit : Nat := 83
def tb_Mo_whole_1 : List (Nat × Instr × Nat × Nat) := [(0, .lconst 0, 1, 0), (1, .lstore_n 1, 2, 0), (2, .iconst 0, 3, 0), (3, .istore_n 3, 4, 0), (4, .aload_n 0, 5, 0), (5, .getfield 84, 8, 0), (8, .iconst (-1), 9, 0), (9, .if_icmp .ne 48, 12, 57), (12, .iload_n 3, 13, 0), (13, .bipush 7, 15, 0), (15, .if_icmp .ge 42, 18, 57), (18, .aload_n 0, 19, 0), (19, .invokevirtual 91, 22, 0), (22, .ifCond .eq 35, 25, 57), (25, .ldc2_w 95, 28, 0), (28, .lload_n 1, 29, 0), (29, .lmul, 30, 0), (30, .aload_n 0, 31, 0), (31, .invokevirtual 87, 34, 0), (34, .i2l, 35, 0), (35, .ladd, 36, 0), (36, .ldc2_w 97, 39, 0), (39, .lsub, 40, 0), (40, .lstore_n 1, 41, 0), (41, .iinc 3 1, 44, 0), (44, .aload_n 0, 45, 0), (45, .dup, 46, 0), (46, .getfield 81, 49, 0), (49, .iconst 1, 50, 0), (50, .iadd, 51, 0)]
def tb_Mo_whole_2 : List (Nat × Instr × Nat × Nat) := [(51, .putfield 81, 54, 0), (54, .goto (-50), 57, 4), (57, .aload_n 0, 58, 0), (58, .getfield 84, 61, 0), (61, .iconst (-1), 62, 0), (62, .if_icmp .ne 22, 65, 84), (65, .iload_n 3, 66, 0), (66, .ifCond .eq 10, 69, 76), (69, .aload_n 0, 70, 0), (70, .invokevirtual 91, 73, 0), (73, .ifCond .eq 11, 76, 84), (76, .aload_n 0, 77, 0), (77, .aload_n 0, 78, 0), (78, .getfield 81, 81, 0), (81, .putfield 84, 84, 0), (84, .lload_n 1, 85, 0), (85, .lreturn, 86, 0)]
def tb_Mo_whole : List (Nat × Instr × Nat × Nat) := tb_Mo_whole_1 ++ tb_Mo_whole_2
def M_Mo_whole : ax_M := (9, (some .long), tb_Mo_whole, [], false)
def m_Mo_whole : Nat := 84
def tb_Mo_place : List (Nat × Instr × Nat × Nat) := [(0, .bipush 16, 2, 0), (2, .iconst 4, 3, 0), (3, .iload_n 0, 4, 0), (4, .imul, 5, 0), (5, .iload_n 1, 6, 0), (6, .iadd, 7, 0), (7, .imul, 8, 0), (8, .ireturn, 9, 0)]
def M_Mo_place : ax_M := (9, (some .int), tb_Mo_place, [], false)
def m_Mo_place : Nat := 85
def tb_Mo_readClass_1 : List (Nat × Instr × Nat × Nat) := [(0, .aload_n 0, 1, 0), (1, .getfield 81, 4, 0), (4, .istore_n 2, 5, 0), (5, .iload_n 1, 6, 0), (6, .iconst 4, 7, 0), (7, .if_icmp .ge 12, 10, 19), (10, .bipush 14, 12, 0), (12, .iload_n 1, 13, 0), (13, .invokestatic 99, 16, 0), (16, .goto 9, 19, 25), (19, .bipush 14, 21, 0), (21, .iconst 3, 22, 0), (22, .invokestatic 99, 25, 0), (25, .istore_n 3, 26, 0), (26, .iload_n 1, 27, 0), (27, .iconst 4, 28, 0), (28, .if_icmp .ge 7, 31, 35), (31, .iconst 1, 32, 0), (32, .goto 4, 35, 36), (35, .iconst 0, 36, 0), (36, .istore 4, 38, 0), (38, .aload_n 0, 39, 0), (39, .bipush 67, 41, 0), (41, .invokevirtual 103, 44, 0), (44, .iconst 0, 45, 0), (45, .istore 5, 47, 0), (47, .iload 5, 49, 0), (49, .bipush 6, 51, 0), (51, .if_icmp .ge 63, 54, 114), (54, .iload 5, 56, 0)]
def tb_Mo_readClass_2 : List (Nat × Instr × Nat × Nat) := [(56, .ifCond .le 9, 59, 65), (59, .aload_n 0, 60, 0), (60, .bipush 44, 62, 0), (62, .invokevirtual 103, 65, 0), (65, .aload_n 0, 66, 0), (66, .invokevirtual 107, 69, 0), (69, .lstore 6, 71, 0), (71, .iload 4, 73, 0), (73, .ifCond .eq 16, 76, 89), (76, .lload 6, 78, 0), (78, .ldc2_w 111, 81, 0), (81, .lcmp, 82, 0), (82, .ifCond .gt 7, 85, 89), (85, .iconst 1, 86, 0), (86, .goto 4, 89, 90), (89, .iconst 0, 90, 0), (90, .istore 4, 92, 0), (92, .iload_n 1, 93, 0), (93, .iconst 4, 94, 0), (94, .if_icmp .ge 14, 97, 108), (97, .aload_n 0, 98, 0), (98, .getfield 16, 101, 0), (101, .iload_n 3, 102, 0), (102, .iload 5, 104, 0), (104, .iadd, 105, 0), (105, .lload 6, 107, 0), (107, .lastore, 108, 0), (108, .iinc 5 1, 111, 0), (111, .goto (-64), 114, 47), (114, .aload_n 0, 115, 0)]
def tb_Mo_readClass_3 : List (Nat × Instr × Nat × Nat) := [(115, .bipush 58, 117, 0), (117, .invokevirtual 103, 120, 0), (120, .iconst 0, 121, 0), (121, .istore 5, 123, 0), (123, .lconst 0, 124, 0), (124, .lstore 6, 126, 0), (126, .iconst 1, 127, 0), (127, .istore 8, 129, 0), (129, .aload_n 0, 130, 0), (130, .getfield 84, 133, 0), (133, .iconst (-1), 134, 0), (134, .if_icmp .ne 151, 137, 285), (137, .iload 8, 139, 0), (139, .ifCond .eq 146, 142, 285), (142, .iload 5, 144, 0), (144, .ifCond .le 9, 147, 153), (147, .aload_n 0, 148, 0), (148, .bipush 44, 150, 0), (150, .invokevirtual 103, 153, 0), (153, .aload_n 0, 154, 0), (154, .invokevirtual 107, 157, 0), (157, .lstore 9, 159, 0), (159, .aload_n 0, 160, 0), (160, .bipush 64, 162, 0), (162, .invokevirtual 103, 165, 0), (165, .aload_n 0, 166, 0), (166, .invokevirtual 107, 169, 0), (169, .lstore 11, 171, 0), (171, .iload 4, 173, 0), (173, .ifCond .eq 46, 176, 219)]
def tb_Mo_readClass_4 : List (Nat × Instr × Nat × Nat) := [(176, .iload 5, 178, 0), (178, .iconst 4, 179, 0), (179, .if_icmp .ge 40, 182, 219), (182, .lload 9, 184, 0), (184, .lload 6, 186, 0), (186, .lcmp, 187, 0), (187, .ifCond .le 32, 190, 219), (190, .lload 9, 192, 0), (192, .ldc2_w 111, 195, 0), (195, .lcmp, 196, 0), (196, .ifCond .gt 23, 199, 219), (199, .lload 11, 201, 0), (201, .lconst 1, 202, 0), (202, .lcmp, 203, 0), (203, .ifCond .lt 16, 206, 219), (206, .lload 11, 208, 0), (208, .ldc2_w 111, 211, 0), (211, .lcmp, 212, 0), (212, .ifCond .gt 7, 215, 219), (215, .iconst 1, 216, 0), (216, .goto 4, 219, 220), (219, .iconst 0, 220, 0), (220, .istore 4, 222, 0), (222, .iload 4, 224, 0), (224, .ifCond .eq 35, 227, 259), (227, .aload_n 0, 228, 0), (228, .getfield 16, 231, 0), (231, .iload_n 3, 232, 0), (232, .bipush 8, 234, 0), (234, .iadd, 235, 0)]
def tb_Mo_readClass_5 : List (Nat × Instr × Nat × Nat) := [(235, .iconst 2, 236, 0), (236, .iload 5, 238, 0), (238, .imul, 239, 0), (239, .iadd, 240, 0), (240, .lload 9, 242, 0), (242, .lastore, 243, 0), (243, .aload_n 0, 244, 0), (244, .getfield 16, 247, 0), (247, .iload_n 3, 248, 0), (248, .bipush 9, 250, 0), (250, .iadd, 251, 0), (251, .iconst 2, 252, 0), (252, .iload 5, 254, 0), (254, .imul, 255, 0), (255, .iadd, 256, 0), (256, .lload 11, 258, 0), (258, .lastore, 259, 0), (259, .lload 9, 261, 0), (261, .lstore 6, 263, 0), (263, .iinc 5 1, 266, 0), (266, .aload_n 0, 267, 0), (267, .invokevirtual 87, 270, 0), (270, .bipush 44, 272, 0), (272, .if_icmp .ne 7, 275, 279), (275, .iconst 1, 276, 0), (276, .goto 4, 279, 280), (279, .iconst 0, 280, 0), (280, .istore 8, 282, 0), (282, .goto (-153), 285, 129), (285, .aload_n 0, 286, 0)]
def tb_Mo_readClass_6 : List (Nat × Instr × Nat × Nat) := [(286, .bipush 47, 288, 0), (288, .invokevirtual 103, 291, 0), (291, .aload_n 0, 292, 0), (292, .invokevirtual 107, 295, 0), (295, .lstore 9, 297, 0), (297, .aload_n 0, 298, 0), (298, .bipush 59, 300, 0), (300, .invokevirtual 103, 303, 0), (303, .iload 4, 305, 0), (305, .ifCond .eq 16, 308, 321), (308, .lload 9, 310, 0), (310, .ldc2_w 113, 313, 0), (313, .lcmp, 314, 0), (314, .ifCond .gt 7, 317, 321), (317, .iconst 1, 318, 0), (318, .goto 4, 321, 322), (321, .iconst 0, 322, 0), (322, .istore 4, 324, 0), (324, .aload_n 0, 325, 0), (325, .getfield 84, 328, 0), (328, .iconst (-1), 329, 0), (329, .if_icmp .eq 4, 332, 333), (332, .return_, 333, 0), (333, .iload 4, 335, 0), (335, .ifCond .ne 9, 338, 344), (338, .aload_n 0, 339, 0), (339, .iload_n 2, 340, 0), (340, .putfield 84, 343, 0), (343, .return_, 344, 0), (344, .aload_n 0, 345, 0)]
def tb_Mo_readClass_7 : List (Nat × Instr × Nat × Nat) := [(345, .getfield 16, 348, 0), (348, .iload_n 3, 349, 0), (349, .bipush 6, 351, 0), (351, .iadd, 352, 0), (352, .iload 5, 354, 0), (354, .i2l, 355, 0), (355, .lastore, 356, 0), (356, .aload_n 0, 357, 0), (357, .getfield 16, 360, 0), (360, .iload_n 3, 361, 0), (361, .bipush 7, 363, 0), (363, .iadd, 364, 0), (364, .lload 9, 366, 0), (366, .lastore, 367, 0), (367, .aload_n 0, 368, 0), (368, .getfield 13, 371, 0), (371, .bipush 14, 373, 0), (373, .iload_n 1, 374, 0), (374, .iconst 1, 375, 0), (375, .iadd, 376, 0), (376, .iastore, 377, 0), (377, .return_, 378, 0)]
def tb_Mo_readClass : List (Nat × Instr × Nat × Nat) := tb_Mo_readClass_1 ++ (tb_Mo_readClass_2 ++ (tb_Mo_readClass_3 ++ (tb_Mo_readClass_4 ++ (tb_Mo_readClass_5 ++ (tb_Mo_readClass_6 ++ tb_Mo_readClass_7)))))
def M_Mo_readClass : ax_M := (9, none, tb_Mo_readClass, [], false)
def m_Mo_readClass : Nat := 86
def tb_Mo_copyClasses_1 : List (Nat × Instr × Nat × Nat) := [(0, .aload_n 0, 1, 0), (1, .getfield 13, 4, 0), (4, .iload_n 2, 5, 0), (5, .aload_n 0, 6, 0), (6, .getfield 13, 9, 0), (9, .iload_n 1, 10, 0), (10, .iaload, 11, 0), (11, .iastore, 12, 0), (12, .iconst 0, 13, 0), (13, .istore_n 3, 14, 0), (14, .iload_n 3, 15, 0), (15, .bipush 64, 17, 0), (17, .if_icmp .ge 33, 20, 50), (20, .aload_n 0, 21, 0), (21, .getfield 16, 24, 0), (24, .iload_n 2, 25, 0), (25, .iconst 0, 26, 0), (26, .invokestatic 99, 29, 0), (29, .iload_n 3, 30, 0), (30, .iadd, 31, 0), (31, .aload_n 0, 32, 0), (32, .getfield 16, 35, 0), (35, .iload_n 1, 36, 0), (36, .iconst 0, 37, 0), (37, .invokestatic 99, 40, 0), (40, .iload_n 3, 41, 0), (41, .iadd, 42, 0), (42, .laload, 43, 0), (43, .lastore, 44, 0), (44, .iinc 3 1, 47, 0)]
def tb_Mo_copyClasses_2 : List (Nat × Instr × Nat × Nat) := [(47, .goto (-33), 50, 14), (50, .return_, 51, 0)]
def tb_Mo_copyClasses : List (Nat × Instr × Nat × Nat) := tb_Mo_copyClasses_1 ++ tb_Mo_copyClasses_2
def M_Mo_copyClasses : ax_M := (9, none, tb_Mo_copyClasses, [], false)
def m_Mo_copyClasses : Nat := 87
def tb_Mo_maker_1 : List (Nat × Instr × Nat × Nat) := [(0, .aload_n 0, 1, 0), (1, .iconst 0, 2, 0), (2, .putfield 78, 5, 0), (5, .aload_n 0, 6, 0), (6, .iconst 0, 7, 0), (7, .putfield 81, 10, 0), (10, .aload_n 0, 11, 0), (11, .iconst (-1), 12, 0), (12, .putfield 84, 15, 0), (15, .aload_n 0, 16, 0), (16, .bipush 77, 18, 0), (18, .invokevirtual 103, 21, 0), (21, .aload_n 0, 22, 0), (22, .invokevirtual 87, 25, 0), (25, .bipush 48, 27, 0), (27, .isub, 28, 0), (28, .istore_n 1, 29, 0), (29, .aload_n 0, 30, 0), (30, .getfield 84, 33, 0), (33, .iconst (-1), 34, 0), (34, .if_icmp .ne 18, 37, 52), (37, .aload_n 0, 38, 0), (38, .invokevirtual 91, 41, 0), (41, .ifCond .ne 11, 44, 52), (44, .aload_n 0, 45, 0), (45, .aload_n 0, 46, 0), (46, .getfield 81, 49, 0), (49, .putfield 84, 52, 0), (52, .aload_n 0, 53, 0), (53, .getfield 84, 56, 0)]
def tb_Mo_maker_2 : List (Nat × Instr × Nat × Nat) := [(56, .iconst (-1), 57, 0), (57, .if_icmp .ne 21, 60, 78), (60, .iload_n 1, 61, 0), (61, .aload_n 0, 62, 0), (62, .getfield 63, 65, 0), (65, .if_icmp .gt 8, 68, 73), (68, .iload_n 1, 69, 0), (69, .iconst 3, 70, 0), (70, .if_icmp .le 8, 73, 78), (73, .aload_n 0, 74, 0), (74, .iconst 0, 75, 0), (75, .putfield 84, 78, 0), (78, .aload_n 0, 79, 0), (79, .dup, 80, 0), (80, .getfield 81, 83, 0), (83, .iconst 1, 84, 0), (84, .iadd, 85, 0), (85, .putfield 81, 88, 0), (88, .iconst 0, 89, 0), (89, .istore_n 2, 90, 0), (90, .aload_n 0, 91, 0), (91, .getfield 84, 94, 0), (94, .iconst (-1), 95, 0), (95, .if_icmp .ne 29, 98, 124), (98, .iload_n 2, 99, 0), (99, .ifCond .eq 14, 102, 113), (102, .aload_n 0, 103, 0), (103, .getfield 81, 106, 0), (106, .aload_n 0, 107, 0), (107, .getfield 59, 110, 0)]
def tb_Mo_maker_3 : List (Nat × Instr × Nat × Nat) := [(110, .if_icmp .ge 14, 113, 124), (113, .aload_n 0, 114, 0), (114, .iload_n 2, 115, 0), (115, .invokevirtual 115, 118, 0), (118, .iinc 2 1, 121, 0), (121, .goto (-31), 124, 90), (124, .aload_n 0, 125, 0), (125, .iconst 0, 126, 0), (126, .putfield 59, 129, 0), (129, .aload_n 0, 130, 0), (130, .getfield 84, 133, 0), (133, .iconst (-1), 134, 0), (134, .if_icmp .eq 10, 137, 144), (137, .iconst (-1), 138, 0), (138, .aload_n 0, 139, 0), (139, .getfield 84, 142, 0), (142, .isub, 143, 0), (143, .ireturn, 144, 0), (144, .aload_n 0, 145, 0), (145, .bipush 14, 147, 0), (147, .iload_n 1, 148, 0), (148, .invokevirtual 118, 151, 0), (151, .iload_n 1, 152, 0), (152, .aload_n 0, 153, 0), (153, .getfield 63, 156, 0), (156, .if_icmp .ne 13, 159, 169), (159, .aload_n 0, 160, 0), (160, .dup, 161, 0), (161, .getfield 63, 164, 0), (164, .iconst 1, 165, 0)]
def tb_Mo_maker_4 : List (Nat × Instr × Nat × Nat) := [(165, .iadd, 166, 0), (166, .putfield 63, 169, 0), (169, .iload_n 1, 170, 0), (170, .ireturn, 171, 0)]
def tb_Mo_maker : List (Nat × Instr × Nat × Nat) := tb_Mo_maker_1 ++ (tb_Mo_maker_2 ++ (tb_Mo_maker_3 ++ tb_Mo_maker_4))
def M_Mo_maker : ax_M := (9, (some .int), tb_Mo_maker, [], false)
def m_Mo_maker : Nat := 88
def tb_Mo_isLayer : List (Nat × Instr × Nat × Nat) := [(0, .iload_n 0, 1, 0), (1, .ifCond .lt 13, 4, 14), (4, .iload_n 0, 5, 0), (5, .bipush 8, 7, 0), (7, .if_icmp .ge 7, 10, 14), (10, .iconst 1, 11, 0), (11, .goto 4, 14, 15), (14, .iconst 0, 15, 0), (15, .ireturn, 16, 0)]
def M_Mo_isLayer : ax_M := (9, (some .boolean), tb_Mo_isLayer, [], false)
def m_Mo_isLayer : Nat := 89
def tb_Mo_thing_1 : List (Nat × Instr × Nat × Nat) := [(0, .iload_n 1, 1, 0), (1, .ifCond .lt 21, 4, 22), (4, .iload_n 1, 5, 0), (5, .bipush 6, 7, 0), (7, .if_icmp .ge 15, 10, 22), (10, .iload 4, 12, 0), (12, .invokestatic 122, 15, 0), (15, .ifCond .eq 7, 18, 22), (18, .iconst 1, 19, 0), (19, .goto 4, 22, 23), (22, .iconst 0, 23, 0), (23, .istore 5, 25, 0), (25, .aload_n 0, 26, 0), (26, .iload 5, 28, 0), (28, .ifCond .ne 7, 31, 35), (31, .iconst 1, 32, 0), (32, .goto 22, 35, 54), (35, .lload_n 2, 36, 0), (36, .lconst 0, 37, 0), (37, .lcmp, 38, 0), (38, .ifCond .lt 11, 41, 49), (41, .lload_n 2, 42, 0), (42, .ldc2_w 111, 45, 0), (45, .lcmp, 46, 0), (46, .ifCond .le 7, 49, 53), (49, .iconst 2, 50, 0), (50, .goto 4, 53, 54), (53, .iconst 0, 54, 0), (54, .putfield 78, 57, 0), (57, .aload_n 0, 58, 0)]
def tb_Mo_thing_2 : List (Nat × Instr × Nat × Nat) := [(58, .getfield 78, 61, 0), (61, .ifCond .eq 5, 64, 66), (64, .iconst 0, 65, 0), (65, .ireturn, 66, 0), (66, .aload_n 0, 67, 0), (67, .getfield 66, 70, 0), (70, .bipush 60, 72, 0), (72, .if_icmp .ne 5, 75, 77), (75, .iconst (-1), 76, 0), (76, .ireturn, 77, 0), (77, .aload_n 0, 78, 0), (78, .getfield 20, 81, 0), (81, .aload_n 0, 82, 0), (82, .getfield 66, 85, 0), (85, .iload_n 1, 86, 0), (86, .iastore, 87, 0), (87, .aload_n 0, 88, 0), (88, .getfield 23, 91, 0), (91, .aload_n 0, 92, 0), (92, .getfield 66, 95, 0), (95, .lload_n 2, 96, 0), (96, .lastore, 97, 0), (97, .aload_n 0, 98, 0), (98, .getfield 26, 101, 0), (101, .aload_n 0, 102, 0), (102, .getfield 66, 105, 0), (105, .iload 4, 107, 0), (107, .iastore, 108, 0), (108, .aload_n 0, 109, 0), (109, .getfield 29, 112, 0)]
def tb_Mo_thing_3 : List (Nat × Instr × Nat × Nat) := [(112, .aload_n 0, 113, 0), (113, .getfield 66, 116, 0), (116, .lconst 0, 117, 0), (117, .lastore, 118, 0), (118, .aload_n 0, 119, 0), (119, .getfield 32, 122, 0), (122, .aload_n 0, 123, 0), (123, .getfield 66, 126, 0), (126, .lconst 0, 127, 0), (127, .lastore, 128, 0), (128, .aload_n 0, 129, 0), (129, .dup, 130, 0), (130, .getfield 66, 133, 0), (133, .iconst 1, 134, 0), (134, .iadd, 135, 0), (135, .putfield 66, 138, 0), (138, .aload_n 0, 139, 0), (139, .getfield 66, 142, 0), (142, .iconst 1, 143, 0), (143, .isub, 144, 0), (144, .ireturn, 145, 0)]
def tb_Mo_thing : List (Nat × Instr × Nat × Nat) := tb_Mo_thing_1 ++ (tb_Mo_thing_2 ++ tb_Mo_thing_3)
def M_Mo_thing : ax_M := (9, (some .int), tb_Mo_thing, [], false)
def m_Mo_thing : Nat := 90
def tb_Mo_isPlace : List (Nat × Instr × Nat × Nat) := [(0, .lload_n 0, 1, 0), (1, .ldc2_w 126, 4, 0), (4, .lcmp, 5, 0), (5, .ifCond .lt 15, 8, 20), (8, .lload_n 0, 9, 0), (9, .ldc2_w 111, 12, 0), (12, .lcmp, 13, 0), (13, .ifCond .gt 7, 16, 20), (16, .iconst 1, 17, 0), (17, .goto 4, 20, 21), (20, .iconst 0, 21, 0), (21, .ireturn, 22, 0)]
def M_Mo_isPlace : ax_M := (9, (some .boolean), tb_Mo_isPlace, [], false)
def m_Mo_isPlace : Nat := 91
def tb_Mo_at_1 : List (Nat × Instr × Nat × Nat) := [(0, .aload_n 0, 1, 0), (1, .iload_n 1, 2, 0), (2, .ifCond .lt 11, 5, 13), (5, .iload_n 1, 6, 0), (6, .aload_n 0, 7, 0), (7, .getfield 66, 10, 0), (10, .if_icmp .lt 7, 13, 17), (13, .iconst 1, 14, 0), (14, .goto 23, 17, 37), (17, .lload_n 2, 18, 0), (18, .invokestatic 128, 21, 0), (21, .ifCond .eq 15, 24, 36), (24, .lload 4, 26, 0), (26, .invokestatic 128, 29, 0), (29, .ifCond .eq 7, 32, 36), (32, .iconst 0, 33, 0), (33, .goto 4, 36, 37), (36, .iconst 2, 37, 0), (37, .putfield 78, 40, 0), (40, .aload_n 0, 41, 0), (41, .getfield 78, 44, 0), (44, .ifCond .ne 26, 47, 70), (47, .aload_n 0, 48, 0), (48, .getfield 29, 51, 0), (51, .iload_n 1, 52, 0), (52, .laload, 53, 0), (53, .lload_n 2, 54, 0), (54, .lcmp, 55, 0), (55, .ifCond .ne 17, 58, 72), (58, .aload_n 0, 59, 0)]
def tb_Mo_at_2 : List (Nat × Instr × Nat × Nat) := [(59, .getfield 32, 62, 0), (62, .iload_n 1, 63, 0), (63, .laload, 64, 0), (64, .lload 4, 66, 0), (66, .lcmp, 67, 0), (67, .ifCond .ne 5, 70, 72), (70, .iconst 0, 71, 0), (71, .ireturn, 72, 0), (72, .aload_n 0, 73, 0), (73, .getfield 29, 76, 0), (76, .iload_n 1, 77, 0), (77, .lload_n 2, 78, 0), (78, .lastore, 79, 0), (79, .aload_n 0, 80, 0), (80, .getfield 32, 83, 0), (83, .iload_n 1, 84, 0), (84, .lload 4, 86, 0), (86, .lastore, 87, 0), (87, .iconst 1, 88, 0), (88, .ireturn, 89, 0)]
def tb_Mo_at : List (Nat × Instr × Nat × Nat) := tb_Mo_at_1 ++ tb_Mo_at_2
def M_Mo_at : ax_M := (9, (some .boolean), tb_Mo_at, [], false)
def m_Mo_at : Nat := 92
def tb_Mo_beyond_1 : List (Nat × Instr × Nat × Nat) := [(0, .aload_n 0, 1, 0), (1, .getfield 16, 4, 0), (4, .iload_n 1, 5, 0), (5, .iload_n 2, 6, 0), (6, .invokestatic 99, 9, 0), (9, .aload_n 0, 10, 0), (10, .getfield 20, 13, 0), (13, .iload_n 3, 14, 0), (14, .iaload, 15, 0), (15, .iadd, 16, 0), (16, .laload, 17, 0), (17, .lstore 4, 19, 0), (19, .aload_n 0, 20, 0), (20, .getfield 20, 23, 0), (23, .iload_n 3, 24, 0), (24, .iaload, 25, 0), (25, .iconst 4, 26, 0), (26, .if_icmp .ge 15, 29, 41), (29, .lload 4, 31, 0), (31, .aload_n 0, 32, 0), (32, .getfield 23, 35, 0), (35, .iload_n 3, 36, 0), (36, .laload, 37, 0), (37, .lsub, 38, 0), (38, .goto 12, 41, 50), (41, .aload_n 0, 42, 0), (42, .getfield 23, 45, 0), (45, .iload_n 3, 46, 0), (46, .laload, 47, 0), (47, .lload 4, 49, 0)]
def tb_Mo_beyond_2 : List (Nat × Instr × Nat × Nat) := [(49, .lsub, 50, 0), (50, .lreturn, 51, 0)]
def tb_Mo_beyond : List (Nat × Instr × Nat × Nat) := tb_Mo_beyond_1 ++ tb_Mo_beyond_2
def M_Mo_beyond : ax_M := (9, (some .long), tb_Mo_beyond, [], false)
def m_Mo_beyond : Nat := 93
def tb_Mo_makes : List (Nat × Instr × Nat × Nat) := [(0, .iconst 1, 1, 0), (1, .istore_n 3, 2, 0), (2, .iconst 0, 3, 0), (3, .istore 4, 5, 0), (5, .iload 4, 7, 0), (7, .aload_n 0, 8, 0), (8, .getfield 66, 11, 0), (11, .if_icmp .ge 32, 14, 43), (14, .iload_n 3, 15, 0), (15, .ifCond .eq 20, 18, 35), (18, .aload_n 0, 19, 0), (19, .iload_n 1, 20, 0), (20, .iload_n 2, 21, 0), (21, .iload 4, 23, 0), (23, .invokevirtual 132, 26, 0), (26, .lconst 0, 27, 0), (27, .lcmp, 28, 0), (28, .ifCond .gt 7, 31, 35), (31, .iconst 1, 32, 0), (32, .goto 4, 35, 36), (35, .iconst 0, 36, 0), (36, .istore_n 3, 37, 0), (37, .iinc 4 1, 40, 0), (40, .goto (-35), 43, 5), (43, .iload_n 3, 44, 0), (44, .ireturn, 45, 0)]
def M_Mo_makes : ax_M := (9, (some .boolean), tb_Mo_makes, [], false)
def m_Mo_makes : Nat := 94
def tb_Mo_leastOf : List (Nat × Instr × Nat × Nat) := [(0, .iconst 0, 1, 0), (1, .istore_n 2, 2, 0), (2, .iload_n 2, 3, 0), (3, .aload_n 0, 4, 0), (4, .getfield 13, 7, 0), (7, .iload_n 1, 8, 0), (8, .iaload, 9, 0), (9, .if_icmp .ge 20, 12, 29), (12, .aload_n 0, 13, 0), (13, .iload_n 1, 14, 0), (14, .iload_n 2, 15, 0), (15, .invokevirtual 136, 18, 0), (18, .ifCond .eq 5, 21, 23), (21, .iload_n 2, 22, 0), (22, .ireturn, 23, 0), (23, .iinc 2 1, 26, 0), (26, .goto (-24), 29, 2), (29, .iconst (-1), 30, 0), (30, .ireturn, 31, 0)]
def M_Mo_leastOf : ax_M := (9, (some .int), tb_Mo_leastOf, [], false)
def m_Mo_leastOf : Nat := 95
def tb_Mo_isMaker : List (Nat × Instr × Nat × Nat) := [(0, .iload_n 1, 1, 0), (1, .ifCond .lt 15, 4, 16), (4, .iload_n 1, 5, 0), (5, .aload_n 0, 6, 0), (6, .getfield 63, 9, 0), (9, .if_icmp .ge 7, 12, 16), (12, .iconst 1, 13, 0), (13, .goto 4, 16, 17), (16, .iconst 0, 17, 0), (17, .ireturn, 18, 0)]
def M_Mo_isMaker : ax_M := (9, (some .boolean), tb_Mo_isMaker, [], false)
def m_Mo_isMaker : Nat := 96
def tb_Mo_isClass : List (Nat × Instr × Nat × Nat) := [(0, .aload_n 0, 1, 0), (1, .iload_n 1, 2, 0), (2, .invokevirtual 140, 5, 0), (5, .ifCond .eq 21, 8, 26), (8, .iload_n 2, 9, 0), (9, .ifCond .lt 17, 12, 26), (12, .iload_n 2, 13, 0), (13, .aload_n 0, 14, 0), (14, .getfield 13, 17, 0), (17, .iload_n 1, 18, 0), (18, .iaload, 19, 0), (19, .if_icmp .ge 7, 22, 26), (22, .iconst 1, 23, 0), (23, .goto 4, 26, 27), (26, .iconst 0, 27, 0), (27, .ireturn, 28, 0)]
def M_Mo_isClass : ax_M := (9, (some .boolean), tb_Mo_isClass, [], false)
def m_Mo_isClass : Nat := 97
def tb_Mo_run_1 : List (Nat × Instr × Nat × Nat) := [(0, .aload_n 0, 1, 0), (1, .aload_n 0, 2, 0), (2, .iload_n 1, 3, 0), (3, .iload_n 2, 4, 0), (4, .invokevirtual 143, 7, 0), (7, .ifCond .eq 7, 10, 14), (10, .iconst 0, 11, 0), (11, .goto 4, 14, 15), (14, .iconst 1, 15, 0), (15, .putfield 78, 18, 0), (18, .aload_n 0, 19, 0), (19, .getfield 78, 22, 0), (22, .ifCond .eq 5, 25, 27), (25, .iconst 0, 26, 0), (26, .ireturn, 27, 0), (27, .aload_n 0, 28, 0), (28, .iconst 0, 29, 0), (29, .putfield 69, 32, 0), (32, .iconst 0, 33, 0), (33, .istore_n 3, 34, 0), (34, .iload_n 3, 35, 0), (35, .aload_n 0, 36, 0), (36, .getfield 66, 39, 0), (39, .if_icmp .ge 60, 42, 99), (42, .aload_n 0, 43, 0), (43, .iload_n 1, 44, 0), (44, .iload_n 2, 45, 0), (45, .iload_n 3, 46, 0), (46, .invokevirtual 132, 49, 0), (49, .lconst 0, 50, 0)]
def tb_Mo_run_2 : List (Nat × Instr × Nat × Nat) := [(50, .lcmp, 51, 0), (51, .ifCond .gt 6, 54, 57), (54, .goto 39, 57, 93), (57, .aload_n 0, 58, 0), (58, .getfield 35, 61, 0), (61, .aload_n 0, 62, 0), (62, .getfield 69, 65, 0), (65, .iload_n 3, 66, 0), (66, .iastore, 67, 0), (67, .aload_n 0, 68, 0), (68, .getfield 38, 71, 0), (71, .aload_n 0, 72, 0), (72, .getfield 69, 75, 0), (75, .aload_n 0, 76, 0), (76, .iload_n 1, 77, 0), (77, .iload_n 2, 78, 0), (78, .iload_n 3, 79, 0), (79, .invokevirtual 132, 82, 0), (82, .lastore, 83, 0), (83, .aload_n 0, 84, 0), (84, .dup, 85, 0), (85, .getfield 69, 88, 0), (88, .iconst 1, 89, 0), (89, .iadd, 90, 0), (90, .putfield 69, 93, 0), (93, .iinc 3 1, 96, 0), (96, .goto (-62), 99, 34), (99, .aload_n 0, 100, 0), (100, .getfield 69, 103, 0), (103, .ireturn, 104, 0)]
def tb_Mo_run : List (Nat × Instr × Nat × Nat) := tb_Mo_run_1 ++ tb_Mo_run_2
def M_Mo_run : ax_M := (9, (some .int), tb_Mo_run, [], false)
def m_Mo_run : Nat := 98
def tb_Mo_remark_1 : List (Nat × Instr × Nat × Nat) := [(0, .aload_n 0, 1, 0), (1, .iload_n 2, 2, 0), (2, .ifCond .lt 13, 5, 15), (5, .iload_n 2, 6, 0), (6, .bipush 6, 8, 0), (8, .if_icmp .ge 7, 11, 15), (11, .iconst 0, 12, 0), (12, .goto 4, 15, 16), (15, .iconst 1, 16, 0), (16, .putfield 78, 19, 0), (19, .aload_n 0, 20, 0), (20, .getfield 78, 23, 0), (23, .ifCond .eq 5, 26, 28), (26, .iconst 0, 27, 0), (27, .ireturn, 28, 0), (28, .iload_n 1, 29, 0), (29, .ifCond .lt 11, 32, 40), (32, .iload_n 1, 33, 0), (33, .aload_n 0, 34, 0), (34, .getfield 69, 37, 0), (37, .if_icmp .lt 5, 40, 42), (40, .iconst (-1), 41, 0), (41, .ireturn, 42, 0), (42, .aload_n 0, 43, 0), (43, .getfield 35, 46, 0), (46, .iload_n 1, 47, 0), (47, .iaload, 48, 0), (48, .istore_n 3, 49, 0), (49, .iload_n 2, 50, 0), (50, .tableswitch 66 0 4 #[34, 36, 43, 51, 58], 84, 0)]
def tb_Mo_remark_2 : List (Nat × Instr × Nat × Nat) := [(84, .iload_n 3, 85, 0), (85, .ireturn, 86, 0), (86, .aload_n 0, 87, 0), (87, .getfield 20, 90, 0), (90, .iload_n 3, 91, 0), (91, .iaload, 92, 0), (92, .ireturn, 93, 0), (93, .aload_n 0, 94, 0), (94, .getfield 38, 97, 0), (97, .iload_n 1, 98, 0), (98, .laload, 99, 0), (99, .l2i, 100, 0), (100, .ireturn, 101, 0), (101, .aload_n 0, 102, 0), (102, .getfield 26, 105, 0), (105, .iload_n 3, 106, 0), (106, .iaload, 107, 0), (107, .ireturn, 108, 0), (108, .aload_n 0, 109, 0), (109, .getfield 29, 112, 0), (112, .iload_n 3, 113, 0), (113, .laload, 114, 0), (114, .l2i, 115, 0), (115, .ireturn, 116, 0), (116, .aload_n 0, 117, 0), (117, .getfield 32, 120, 0), (120, .iload_n 3, 121, 0), (121, .laload, 122, 0), (122, .l2i, 123, 0), (123, .ireturn, 124, 0)]
def tb_Mo_remark : List (Nat × Instr × Nat × Nat) := tb_Mo_remark_1 ++ tb_Mo_remark_2
def M_Mo_remark : ax_M := (9, (some .int), tb_Mo_remark, [], false)
def m_Mo_remark : Nat := 99
def tb_Mo_least : List (Nat × Instr × Nat × Nat) := [(0, .aload_n 0, 1, 0), (1, .aload_n 0, 2, 0), (2, .iload_n 1, 3, 0), (3, .invokevirtual 140, 6, 0), (6, .ifCond .eq 7, 9, 13), (9, .iconst 0, 10, 0), (10, .goto 4, 13, 14), (13, .iconst 1, 14, 0), (14, .putfield 78, 17, 0), (17, .aload_n 0, 18, 0), (18, .getfield 78, 21, 0), (21, .ifCond .ne 11, 24, 32), (24, .aload_n 0, 25, 0), (25, .iload_n 1, 26, 0), (26, .invokevirtual 146, 29, 0), (29, .goto 4, 32, 33), (32, .iconst 0, 33, 0), (33, .ireturn, 34, 0)]
def M_Mo_least : ax_M := (9, (some .int), tb_Mo_least, [], false)
def m_Mo_least : Nat := 100
def tb_Mo_isQuantity : List (Nat × Instr × Nat × Nat) := [(0, .lload_n 0, 1, 0), (1, .lconst 1, 2, 0), (2, .lcmp, 3, 0), (3, .ifCond .lt 15, 6, 18), (6, .lload_n 0, 7, 0), (7, .ldc2_w 111, 10, 0), (10, .lcmp, 11, 0), (11, .ifCond .gt 7, 14, 18), (14, .iconst 1, 15, 0), (15, .goto 4, 18, 19), (18, .iconst 0, 19, 0), (19, .ireturn, 20, 0)]
def M_Mo_isQuantity : ax_M := (9, (some .boolean), tb_Mo_isQuantity, [], false)
def m_Mo_isQuantity : Nat := 101
def tb_Mo_priceOf_1 : List (Nat × Instr × Nat × Nat) := [(0, .iload_n 1, 1, 0), (1, .iload_n 2, 2, 0), (2, .invokestatic 99, 5, 0), (5, .istore 5, 7, 0), (7, .aload_n 0, 8, 0), (8, .getfield 16, 11, 0), (11, .iload 5, 13, 0), (13, .bipush 6, 15, 0), (15, .iadd, 16, 0), (16, .laload, 17, 0), (17, .l2i, 18, 0), (18, .istore 6, 20, 0), (20, .iload 6, 22, 0), (22, .iconst 1, 23, 0), (23, .isub, 24, 0), (24, .istore 7, 26, 0), (26, .iload 7, 28, 0), (28, .ifCond .lt 47, 31, 75), (31, .aload_n 0, 32, 0), (32, .getfield 16, 35, 0), (35, .iload 5, 37, 0), (37, .bipush 8, 39, 0), (39, .iadd, 40, 0), (40, .iconst 2, 41, 0), (41, .iload 7, 43, 0), (43, .imul, 44, 0), (44, .iadd, 45, 0), (45, .laload, 46, 0), (46, .lload_n 3, 47, 0), (47, .lcmp, 48, 0)]
def tb_Mo_priceOf_2 : List (Nat × Instr × Nat × Nat) := [(48, .ifCond .gt 21, 51, 69), (51, .lload_n 3, 52, 0), (52, .aload_n 0, 53, 0), (53, .getfield 16, 56, 0), (56, .iload 5, 58, 0), (58, .bipush 9, 60, 0), (60, .iadd, 61, 0), (61, .iconst 2, 62, 0), (62, .iload 7, 64, 0), (64, .imul, 65, 0), (65, .iadd, 66, 0), (66, .laload, 67, 0), (67, .lmul, 68, 0), (68, .lreturn, 69, 0), (69, .iinc 7 (-1), 72, 0), (72, .goto (-46), 75, 26), (75, .aload_n 0, 76, 0), (76, .getfield 16, 79, 0), (79, .iload 5, 81, 0), (81, .bipush 8, 83, 0), (83, .iadd, 84, 0), (84, .laload, 85, 0), (85, .aload_n 0, 86, 0), (86, .getfield 16, 89, 0), (89, .iload 5, 91, 0), (91, .bipush 9, 93, 0), (93, .iadd, 94, 0), (94, .laload, 95, 0), (95, .lmul, 96, 0), (96, .lreturn, 97, 0)]
def tb_Mo_priceOf : List (Nat × Instr × Nat × Nat) := tb_Mo_priceOf_1 ++ tb_Mo_priceOf_2
def M_Mo_priceOf : ax_M := (9, (some .long), tb_Mo_priceOf, [], false)
def m_Mo_priceOf : Nat := 102
def tb_Mo_price : List (Nat × Instr × Nat × Nat) := [(0, .aload_n 0, 1, 0), (1, .aload_n 0, 2, 0), (2, .iload_n 1, 3, 0), (3, .iload_n 2, 4, 0), (4, .invokevirtual 143, 7, 0), (7, .ifCond .ne 7, 10, 14), (10, .iconst 1, 11, 0), (11, .goto 15, 14, 26), (14, .lload_n 3, 15, 0), (15, .invokestatic 150, 18, 0), (18, .ifCond .eq 7, 21, 25), (21, .iconst 0, 22, 0), (22, .goto 4, 25, 26), (25, .iconst 2, 26, 0), (26, .putfield 78, 29, 0), (29, .aload_n 0, 30, 0), (30, .getfield 78, 33, 0), (33, .ifCond .ne 13, 36, 46), (36, .aload_n 0, 37, 0), (37, .iload_n 1, 38, 0), (38, .iload_n 2, 39, 0), (39, .lload_n 3, 40, 0), (40, .invokevirtual 153, 43, 0), (43, .goto 4, 46, 47), (46, .lconst 0, 47, 0), (47, .lreturn, 48, 0)]
def M_Mo_price : ax_M := (9, (some .long), tb_Mo_price, [], false)
def m_Mo_price : Nat := 103
def tb_Mo_share_1 : List (Nat × Instr × Nat × Nat) := [(0, .aload_n 0, 1, 0), (1, .lload_n 3, 2, 0), (2, .invokestatic 150, 5, 0), (5, .ifCond .eq 9, 8, 14), (8, .lload_n 1, 9, 0), (9, .lconst 0, 10, 0), (10, .lcmp, 11, 0), (11, .ifCond .ge 7, 14, 18), (14, .iconst 2, 15, 0), (15, .goto 21, 18, 36), (18, .iload 5, 20, 0), (20, .ifCond .lt 11, 23, 31), (23, .iload 5, 25, 0), (25, .i2l, 26, 0), (26, .lload_n 3, 27, 0), (27, .lcmp, 28, 0), (28, .ifCond .lt 7, 31, 35), (31, .iconst 1, 32, 0), (32, .goto 4, 35, 36), (35, .iconst 0, 36, 0), (36, .putfield 78, 39, 0), (39, .aload_n 0, 40, 0), (40, .getfield 78, 43, 0), (43, .ifCond .eq 5, 46, 48), (46, .lconst 0, 47, 0), (47, .lreturn, 48, 0), (48, .lload_n 1, 49, 0), (49, .lload_n 3, 50, 0), (50, .ldiv, 51, 0), (51, .iload 5, 53, 0)]
def tb_Mo_share_2 : List (Nat × Instr × Nat × Nat) := [(53, .i2l, 54, 0), (54, .lload_n 1, 55, 0), (55, .lload_n 3, 56, 0), (56, .lrem, 57, 0), (57, .lcmp, 58, 0), (58, .ifCond .ge 7, 61, 65), (61, .lconst 1, 62, 0), (62, .goto 4, 65, 66), (65, .lconst 0, 66, 0), (66, .ladd, 67, 0), (67, .lreturn, 68, 0)]
def tb_Mo_share : List (Nat × Instr × Nat × Nat) := tb_Mo_share_1 ++ tb_Mo_share_2
def M_Mo_share : ax_M := (9, (some .long), tb_Mo_share, [], false)
def m_Mo_share : Nat := 104
def tb_Mo_best_1 : List (Nat × Instr × Nat × Nat) := [(0, .aload_n 0, 1, 0), (1, .lload_n 1, 2, 0), (2, .invokestatic 150, 5, 0), (5, .ifCond .eq 7, 8, 12), (8, .iconst 0, 9, 0), (9, .goto 4, 12, 13), (12, .iconst 1, 13, 0), (13, .putfield 78, 16, 0), (16, .aload_n 0, 17, 0), (17, .getfield 78, 20, 0), (20, .ifCond .eq 5, 23, 25), (23, .iconst 0, 24, 0), (24, .ireturn, 25, 0), (25, .iconst (-1), 26, 0), (26, .istore_n 3, 27, 0), (27, .lconst 0, 28, 0), (28, .lstore 4, 30, 0), (30, .iconst 0, 31, 0), (31, .istore 6, 33, 0), (33, .iload 6, 35, 0), (35, .aload_n 0, 36, 0), (36, .getfield 63, 39, 0), (39, .if_icmp .ge 60, 42, 99), (42, .aload_n 0, 43, 0), (43, .iload 6, 45, 0), (45, .invokevirtual 146, 48, 0), (48, .istore 7, 50, 0), (50, .iload 7, 52, 0), (52, .iconst (-1), 53, 0), (53, .if_icmp .eq 40, 56, 93)]
def tb_Mo_best_2 : List (Nat × Instr × Nat × Nat) := [(56, .iload_n 3, 57, 0), (57, .iconst (-1), 58, 0), (58, .if_icmp .eq 21, 61, 79), (61, .aload_n 0, 62, 0), (62, .iload 6, 64, 0), (64, .iload 7, 66, 0), (66, .lload_n 1, 67, 0), (67, .invokevirtual 153, 70, 0), (70, .lload 4, 72, 0), (72, .lcmp, 73, 0), (73, .ifCond .lt 6, 76, 79), (76, .goto 17, 79, 93), (79, .iload 6, 81, 0), (81, .istore_n 3, 82, 0), (82, .aload_n 0, 83, 0), (83, .iload 6, 85, 0), (85, .iload 7, 87, 0), (87, .lload_n 1, 88, 0), (88, .invokevirtual 153, 91, 0), (91, .lstore 4, 93, 0), (93, .iinc 6 1, 96, 0), (96, .goto (-63), 99, 33), (99, .iload_n 3, 100, 0), (100, .ireturn, 101, 0)]
def tb_Mo_best : List (Nat × Instr × Nat × Nat) := tb_Mo_best_1 ++ tb_Mo_best_2
def M_Mo_best : ax_M := (9, (some .int), tb_Mo_best, [], false)
def m_Mo_best : Nat := 105
def tb_Mo_isCell : List (Nat × Instr × Nat × Nat) := [(0, .iload_n 0, 1, 0), (1, .invokestatic 122, 4, 0), (4, .ifCond .eq 17, 7, 21), (7, .iload_n 1, 8, 0), (8, .ifCond .lt 13, 11, 21), (11, .iload_n 1, 12, 0), (12, .bipush 16, 14, 0), (14, .if_icmp .ge 7, 17, 21), (17, .iconst 1, 18, 0), (18, .goto 4, 21, 22), (21, .iconst 0, 22, 0), (22, .ireturn, 23, 0)]
def M_Mo_isCell : ax_M := (9, (some .boolean), tb_Mo_isCell, [], false)
def m_Mo_isCell : Nat := 106
def tb_Mo_copper_1 : List (Nat × Instr × Nat × Nat) := [(0, .lload 5, 2, 0), (2, .lconst 1, 3, 0), (3, .lcmp, 4, 0), (4, .ifCond .lt 29, 7, 33), (7, .lload 5, 9, 0), (9, .ldc2_w 95, 12, 0), (12, .lcmp, 13, 0), (13, .ifCond .gt 20, 16, 33), (16, .lload_n 3, 17, 0), (17, .lconst 0, 18, 0), (18, .lcmp, 19, 0), (19, .ifCond .lt 14, 22, 33), (22, .lload_n 3, 23, 0), (23, .lload 5, 25, 0), (25, .lcmp, 26, 0), (26, .ifCond .gt 7, 29, 33), (29, .iconst 1, 30, 0), (30, .goto 4, 33, 34), (33, .iconst 0, 34, 0), (34, .istore 7, 36, 0), (36, .aload_n 0, 37, 0), (37, .iload_n 1, 38, 0), (38, .iload_n 2, 39, 0), (39, .invokestatic 157, 42, 0), (42, .ifCond .ne 7, 45, 49), (45, .iconst 1, 46, 0), (46, .goto 13, 49, 59), (49, .iload 7, 51, 0), (51, .ifCond .eq 7, 54, 58), (54, .iconst 0, 55, 0)]
def tb_Mo_copper_2 : List (Nat × Instr × Nat × Nat) := [(55, .goto 4, 58, 59), (58, .iconst 2, 59, 0), (59, .putfield 78, 62, 0), (62, .aload_n 0, 63, 0), (63, .getfield 78, 66, 0), (66, .ifCond .eq 5, 69, 71), (69, .iconst 0, 70, 0), (70, .ireturn, 71, 0), (71, .bipush 16, 73, 0), (73, .iload_n 1, 74, 0), (74, .imul, 75, 0), (75, .iload_n 2, 76, 0), (76, .iadd, 77, 0), (77, .istore 8, 79, 0), (79, .aload_n 0, 80, 0), (80, .getfield 50, 83, 0), (83, .iload 8, 85, 0), (85, .laload, 86, 0), (86, .lload_n 3, 87, 0), (87, .lcmp, 88, 0), (88, .ifCond .ne 16, 91, 104), (91, .aload_n 0, 92, 0), (92, .getfield 53, 95, 0), (95, .iload 8, 97, 0), (97, .laload, 98, 0), (98, .lload 5, 100, 0), (100, .lcmp, 101, 0), (101, .ifCond .eq 7, 104, 108), (104, .iconst 1, 105, 0), (105, .goto 4, 108, 109)]
def tb_Mo_copper_3 : List (Nat × Instr × Nat × Nat) := [(108, .iconst 0, 109, 0), (109, .istore 9, 111, 0), (111, .aload_n 0, 112, 0), (112, .getfield 50, 115, 0), (115, .iload 8, 117, 0), (117, .lload_n 3, 118, 0), (118, .lastore, 119, 0), (119, .aload_n 0, 120, 0), (120, .getfield 53, 123, 0), (123, .iload 8, 125, 0), (125, .lload 5, 127, 0), (127, .lastore, 128, 0), (128, .iload 9, 130, 0), (130, .ireturn, 131, 0)]
def tb_Mo_copper : List (Nat × Instr × Nat × Nat) := tb_Mo_copper_1 ++ (tb_Mo_copper_2 ++ tb_Mo_copper_3)
def M_Mo_copper : ax_M := (9, (some .boolean), tb_Mo_copper, [], false)
def m_Mo_copper : Nat := 107
def tb_Mo_balance_1 : List (Nat × Instr × Nat × Nat) := [(0, .aload_n 0, 1, 0), (1, .iload_n 1, 2, 0), (2, .iload_n 2, 3, 0), (3, .invokestatic 157, 6, 0), (6, .ifCond .eq 16, 9, 22), (9, .iload_n 3, 10, 0), (10, .ifCond .eq 8, 13, 18), (13, .iload_n 3, 14, 0), (14, .iconst 1, 15, 0), (15, .if_icmp .ne 7, 18, 22), (18, .iconst 0, 19, 0), (19, .goto 4, 22, 23), (22, .iconst 1, 23, 0), (23, .putfield 78, 26, 0), (26, .aload_n 0, 27, 0), (27, .getfield 78, 30, 0), (30, .ifCond .eq 5, 33, 35), (33, .lconst 0, 34, 0), (34, .lreturn, 35, 0), (35, .lconst 0, 36, 0), (36, .lstore 4, 38, 0), (38, .bipush 16, 40, 0), (40, .iload_n 1, 41, 0), (41, .imul, 42, 0), (42, .istore 6, 44, 0), (44, .iload 6, 46, 0), (46, .bipush 16, 48, 0), (48, .iload_n 1, 49, 0), (49, .imul, 50, 0), (50, .bipush 16, 52, 0)]
def tb_Mo_balance_2 : List (Nat × Instr × Nat × Nat) := [(52, .iadd, 53, 0), (53, .if_icmp .ge 33, 56, 86), (56, .lload 4, 58, 0), (58, .aload_n 0, 59, 0), (59, .getfield 50, 62, 0), (62, .iload 6, 64, 0), (64, .laload, 65, 0), (65, .ldc2_w 160, 68, 0), (68, .aload_n 0, 69, 0), (69, .getfield 53, 72, 0), (72, .iload 6, 74, 0), (74, .laload, 75, 0), (75, .ldiv, 76, 0), (76, .lmul, 77, 0), (77, .ladd, 78, 0), (78, .lstore 4, 80, 0), (80, .iinc 6 1, 83, 0), (83, .goto (-39), 86, 44), (86, .bipush 16, 88, 0), (88, .iload_n 1, 89, 0), (89, .imul, 90, 0), (90, .iload_n 2, 91, 0), (91, .iadd, 92, 0), (92, .istore 6, 94, 0), (94, .ldc2_w 162, 97, 0), (97, .aload_n 0, 98, 0), (98, .getfield 50, 101, 0), (101, .iload 6, 103, 0), (103, .laload, 104, 0), (104, .lmul, 105, 0)]
def tb_Mo_balance_3 : List (Nat × Instr × Nat × Nat) := [(105, .ldc2_w 160, 108, 0), (108, .aload_n 0, 109, 0), (109, .getfield 53, 112, 0), (112, .iload 6, 114, 0), (114, .laload, 115, 0), (115, .ldiv, 116, 0), (116, .lmul, 117, 0), (117, .lload 4, 119, 0), (119, .lsub, 120, 0), (120, .lstore 7, 122, 0), (122, .lload 7, 124, 0), (124, .lconst 0, 125, 0), (125, .lcmp, 126, 0), (126, .ifCond .ge 10, 129, 136), (129, .lconst 0, 130, 0), (130, .lload 7, 132, 0), (132, .lsub, 133, 0), (133, .goto 5, 136, 138), (136, .lload 7, 138, 0), (138, .lstore 9, 140, 0), (140, .ldc2_w 164, 143, 0), (143, .lstore 11, 145, 0), (145, .lload 9, 147, 0), (147, .lconst 0, 148, 0), (148, .lcmp, 149, 0), (149, .ifCond .eq 21, 152, 170), (152, .lload 11, 154, 0), (154, .lload 9, 156, 0), (156, .lrem, 157, 0), (157, .lstore 13, 159, 0)]
def tb_Mo_balance_4 : List (Nat × Instr × Nat × Nat) := [(159, .lload 9, 161, 0), (161, .lstore 11, 163, 0), (163, .lload 13, 165, 0), (165, .lstore 9, 167, 0), (167, .goto (-22), 170, 145), (170, .iload_n 3, 171, 0), (171, .ifCond .ne 11, 174, 182), (174, .lload 7, 176, 0), (176, .lload 11, 178, 0), (178, .ldiv, 179, 0), (179, .goto 9, 182, 188), (182, .ldc2_w 164, 185, 0), (185, .lload 11, 187, 0), (187, .ldiv, 188, 0), (188, .lreturn, 189, 0)]
def tb_Mo_balance : List (Nat × Instr × Nat × Nat) := tb_Mo_balance_1 ++ (tb_Mo_balance_2 ++ (tb_Mo_balance_3 ++ tb_Mo_balance_4))
def M_Mo_balance : ax_M := (9, (some .long), tb_Mo_balance, [], false)
def m_Mo_balance : Nat := 108
def tb_Mo_quote_1 : List (Nat × Instr × Nat × Nat) := [(0, .aload_n 0, 1, 0), (1, .aload_n 0, 2, 0), (2, .iload_n 1, 3, 0), (3, .invokevirtual 140, 6, 0), (6, .ifCond .eq 7, 9, 13), (9, .iconst 0, 10, 0), (10, .goto 4, 13, 14), (13, .iconst 1, 14, 0), (14, .putfield 78, 17, 0), (17, .aload_n 0, 18, 0), (18, .getfield 78, 21, 0), (21, .ifCond .eq 5, 24, 26), (24, .iconst 0, 25, 0), (25, .ireturn, 26, 0), (26, .aload_n 0, 27, 0), (27, .getfield 72, 30, 0), (30, .bipush 10, 32, 0), (32, .if_icmp .ne 5, 35, 37), (35, .iconst (-1), 36, 0), (36, .ireturn, 37, 0), (37, .aload_n 0, 38, 0), (38, .iload_n 1, 39, 0), (39, .iconst 4, 40, 0), (40, .aload_n 0, 41, 0), (41, .getfield 72, 44, 0), (44, .iadd, 45, 0), (45, .invokevirtual 118, 48, 0), (48, .aload_n 0, 49, 0), (49, .getfield 41, 52, 0), (52, .aload_n 0, 53, 0)]
def tb_Mo_quote_2 : List (Nat × Instr × Nat × Nat) := [(53, .getfield 72, 56, 0), (56, .iload_n 1, 57, 0), (57, .iastore, 58, 0), (58, .aload_n 0, 59, 0), (59, .getfield 44, 62, 0), (62, .aload_n 0, 63, 0), (63, .getfield 72, 66, 0), (66, .lload_n 2, 67, 0), (67, .lastore, 68, 0), (68, .aload_n 0, 69, 0), (69, .dup, 70, 0), (70, .getfield 72, 73, 0), (73, .iconst 1, 74, 0), (74, .iadd, 75, 0), (75, .putfield 72, 78, 0), (78, .aload_n 0, 79, 0), (79, .getfield 72, 82, 0), (82, .iconst 1, 83, 0), (83, .isub, 84, 0), (84, .ireturn, 85, 0)]
def tb_Mo_quote : List (Nat × Instr × Nat × Nat) := tb_Mo_quote_1 ++ tb_Mo_quote_2
def M_Mo_quote : ax_M := (9, (some .int), tb_Mo_quote, [], false)
def m_Mo_quote : Nat := 109
def tb_Mo_order_1 : List (Nat × Instr × Nat × Nat) := [(0, .aload_n 0, 1, 0), (1, .aload_n 0, 2, 0), (2, .iload_n 1, 3, 0), (3, .invokevirtual 140, 6, 0), (6, .ifCond .ne 7, 9, 13), (9, .iconst 1, 10, 0), (10, .goto 15, 13, 25), (13, .lload_n 2, 14, 0), (14, .invokestatic 150, 17, 0), (17, .ifCond .eq 7, 20, 24), (20, .iconst 0, 21, 0), (21, .goto 4, 24, 25), (24, .iconst 2, 25, 0), (25, .putfield 78, 28, 0), (28, .aload_n 0, 29, 0), (29, .getfield 78, 32, 0), (32, .ifCond .eq 5, 35, 37), (35, .iconst 0, 36, 0), (36, .ireturn, 37, 0), (37, .aload_n 0, 38, 0), (38, .getfield 72, 41, 0), (41, .iconst 1, 42, 0), (42, .isub, 43, 0), (43, .istore 6, 45, 0), (45, .iload 6, 47, 0), (47, .ifCond .lt 33, 50, 80), (50, .aload_n 0, 51, 0), (51, .getfield 41, 54, 0), (54, .iload 6, 56, 0), (56, .iaload, 57, 0)]
def tb_Mo_order_2 : List (Nat × Instr × Nat × Nat) := [(57, .iload_n 1, 58, 0), (58, .if_icmp .ne 16, 61, 74), (61, .aload_n 0, 62, 0), (62, .getfield 44, 65, 0), (65, .iload 6, 67, 0), (67, .laload, 68, 0), (68, .lload 4, 70, 0), (70, .lcmp, 71, 0), (71, .ifCond .ge 9, 74, 80), (74, .iinc 6 (-1), 77, 0), (77, .goto (-32), 80, 45), (80, .iload 6, 82, 0), (82, .ifCond .ge 7, 85, 89), (85, .iload_n 1, 86, 0), (86, .goto 7, 89, 93), (89, .iconst 4, 90, 0), (90, .iload 6, 92, 0), (92, .iadd, 93, 0), (93, .istore 7, 95, 0), (95, .aload_n 0, 96, 0), (96, .iload 7, 98, 0), (98, .invokevirtual 146, 101, 0), (101, .istore 8, 103, 0), (103, .aload_n 0, 104, 0), (104, .getfield 75, 107, 0), (107, .bipush 20, 109, 0), (109, .if_icmp .eq 9, 112, 118), (112, .iload 8, 114, 0), (114, .iconst (-1), 115, 0), (115, .if_icmp .ne 5, 118, 120)]
def tb_Mo_order_3 : List (Nat × Instr × Nat × Nat) := [(118, .iconst (-1), 119, 0), (119, .ireturn, 120, 0), (120, .bipush 7, 122, 0), (122, .aload_n 0, 123, 0), (123, .getfield 75, 126, 0), (126, .imul, 127, 0), (127, .istore 9, 129, 0), (129, .aload_n 0, 130, 0), (130, .iload 7, 132, 0), (132, .iload 8, 134, 0), (134, .lload_n 2, 135, 0), (135, .invokevirtual 153, 138, 0), (138, .lstore 10, 140, 0), (140, .aload_n 0, 141, 0), (141, .getfield 47, 144, 0), (144, .iload 9, 146, 0), (146, .iload_n 1, 147, 0), (147, .i2l, 148, 0), (148, .lastore, 149, 0), (149, .aload_n 0, 150, 0), (150, .getfield 47, 153, 0), (153, .iload 9, 155, 0), (155, .iconst 1, 156, 0), (156, .iadd, 157, 0), (157, .iload 8, 159, 0), (159, .i2l, 160, 0), (160, .lastore, 161, 0), (161, .aload_n 0, 162, 0), (162, .getfield 47, 165, 0), (165, .iload 9, 167, 0)]
def tb_Mo_order_4 : List (Nat × Instr × Nat × Nat) := [(167, .iconst 2, 168, 0), (168, .iadd, 169, 0), (169, .lload_n 2, 170, 0), (170, .lastore, 171, 0), (171, .aload_n 0, 172, 0), (172, .getfield 47, 175, 0), (175, .iload 9, 177, 0), (177, .iconst 3, 178, 0), (178, .iadd, 179, 0), (179, .aload_n 0, 180, 0), (180, .getfield 16, 183, 0), (183, .iload 7, 185, 0), (185, .iload 8, 187, 0), (187, .invokestatic 99, 190, 0), (190, .bipush 7, 192, 0), (192, .iadd, 193, 0), (193, .laload, 194, 0), (194, .lastore, 195, 0), (195, .aload_n 0, 196, 0), (196, .getfield 47, 199, 0), (199, .iload 9, 201, 0), (201, .iconst 4, 202, 0), (202, .iadd, 203, 0), (203, .lload 10, 205, 0), (205, .ldc2_w 113, 208, 0), (208, .ldiv, 209, 0), (209, .lastore, 210, 0), (210, .aload_n 0, 211, 0), (211, .getfield 47, 214, 0), (214, .iload 9, 216, 0)]
def tb_Mo_order_5 : List (Nat × Instr × Nat × Nat) := [(216, .iconst 5, 217, 0), (217, .iadd, 218, 0), (218, .lload 10, 220, 0), (220, .ldc2_w 113, 223, 0), (223, .lrem, 224, 0), (224, .lastore, 225, 0), (225, .aload_n 0, 226, 0), (226, .getfield 47, 229, 0), (229, .iload 9, 231, 0), (231, .bipush 6, 233, 0), (233, .iadd, 234, 0), (234, .iload 6, 236, 0), (236, .ifCond .ge 9, 239, 245), (239, .ldc2_w 166, 242, 0), (242, .goto 6, 245, 248), (245, .iload 6, 247, 0), (247, .i2l, 248, 0), (248, .lastore, 249, 0), (249, .aload_n 0, 250, 0), (250, .dup, 251, 0), (251, .getfield 75, 254, 0), (254, .iconst 1, 255, 0), (255, .iadd, 256, 0), (256, .putfield 75, 259, 0), (259, .aload_n 0, 260, 0), (260, .getfield 75, 263, 0), (263, .iconst 1, 264, 0), (264, .isub, 265, 0), (265, .ireturn, 266, 0)]
def tb_Mo_order : List (Nat × Instr × Nat × Nat) := tb_Mo_order_1 ++ (tb_Mo_order_2 ++ (tb_Mo_order_3 ++ (tb_Mo_order_4 ++ tb_Mo_order_5)))
def M_Mo_order : ax_M := (9, (some .int), tb_Mo_order, [], false)
def m_Mo_order : Nat := 110
def tb_Mo_history_1 : List (Nat × Instr × Nat × Nat) := [(0, .aload_n 0, 1, 0), (1, .iload_n 1, 2, 0), (2, .ifCond .lt 25, 5, 27), (5, .iload_n 1, 6, 0), (6, .aload_n 0, 7, 0), (7, .getfield 75, 10, 0), (10, .if_icmp .ge 17, 13, 27), (13, .iload_n 2, 14, 0), (14, .ifCond .lt 13, 17, 27), (17, .iload_n 2, 18, 0), (18, .bipush 7, 20, 0), (20, .if_icmp .ge 7, 23, 27), (23, .iconst 0, 24, 0), (24, .goto 4, 27, 28), (27, .iconst 1, 28, 0), (28, .putfield 78, 31, 0), (31, .aload_n 0, 32, 0), (32, .getfield 78, 35, 0), (35, .ifCond .ne 18, 38, 53), (38, .aload_n 0, 39, 0), (39, .getfield 47, 42, 0), (42, .bipush 7, 44, 0), (44, .iload_n 1, 45, 0), (45, .imul, 46, 0), (46, .iload_n 2, 47, 0), (47, .iadd, 48, 0), (48, .laload, 49, 0), (49, .l2i, 50, 0), (50, .goto 4, 53, 54), (53, .iconst 0, 54, 0)]
def tb_Mo_history_2 : List (Nat × Instr × Nat × Nat) := [(54, .ireturn, 55, 0)]
def tb_Mo_history : List (Nat × Instr × Nat × Nat) := tb_Mo_history_1 ++ tb_Mo_history_2
def M_Mo_history : ax_M := (9, (some .int), tb_Mo_history, [], false)
def m_Mo_history : Nat := 111
def tb_La_thing : List (Nat × Instr × Nat × Nat) := [(0, .aload 5, 2, 0), (2, .iconst 0, 3, 0), (3, .aload_n 0, 4, 0), (4, .iload_n 1, 5, 0), (5, .lload_n 2, 6, 0), (6, .iload 4, 8, 0), (8, .invokevirtual 7, 11, 0), (11, .i2l, 12, 0), (12, .lastore, 13, 0), (13, .goto 11, 16, 24), (16, .astore 6, 18, 0), (18, .iconst 1, 19, 0), (19, .ireturn, 20, 0), (20, .astore 6, 22, 0), (22, .iconst 2, 23, 0), (23, .ireturn, 24, 0), (24, .iconst 0, 25, 0), (25, .ireturn, 26, 0)]
def M_La_thing : ax_M := (10, (some .int), tb_La_thing, [(0, 13, 16, 13), (0, 13, 20, 15)], false)
def m_La_thing : Nat := 112
def tb_La_at : List (Nat × Instr × Nat × Nat) := [(0, .aload 6, 2, 0), (2, .iconst 0, 3, 0), (3, .aload_n 0, 4, 0), (4, .iload_n 1, 5, 0), (5, .lload_n 2, 6, 0), (6, .lload 4, 8, 0), (8, .invokevirtual 17, 11, 0), (11, .ifCond .eq 7, 14, 18), (14, .lconst 1, 15, 0), (15, .goto 4, 18, 19), (18, .lconst 0, 19, 0), (19, .lastore, 20, 0), (20, .goto 11, 23, 31), (23, .astore 7, 25, 0), (25, .iconst 1, 26, 0), (26, .ireturn, 27, 0), (27, .astore 7, 29, 0), (29, .iconst 2, 30, 0), (30, .ireturn, 31, 0), (31, .iconst 0, 32, 0), (32, .ireturn, 33, 0)]
def M_La_at : ax_M := (10, (some .int), tb_La_at, [(0, 20, 23, 13), (0, 20, 27, 15)], false)
def m_La_at : Nat := 113
def tb_La_run : List (Nat × Instr × Nat × Nat) := [(0, .aload_n 3, 1, 0), (1, .iconst 0, 2, 0), (2, .aload_n 0, 3, 0), (3, .iload_n 1, 4, 0), (4, .iload_n 2, 5, 0), (5, .invokevirtual 21, 8, 0), (8, .i2l, 9, 0), (9, .lastore, 10, 0), (10, .goto 7, 13, 17), (13, .astore 4, 15, 0), (15, .iconst 1, 16, 0), (16, .ireturn, 17, 0), (17, .iconst 0, 18, 0), (18, .ireturn, 19, 0)]
def M_La_run : ax_M := (10, (some .int), tb_La_run, [(0, 10, 13, 13)], false)
def m_La_run : Nat := 114
def tb_La_remark : List (Nat × Instr × Nat × Nat) := [(0, .aload_n 3, 1, 0), (1, .iconst 0, 2, 0), (2, .aload_n 0, 3, 0), (3, .iload_n 1, 4, 0), (4, .iload_n 2, 5, 0), (5, .invokevirtual 25, 8, 0), (8, .i2l, 9, 0), (9, .lastore, 10, 0), (10, .goto 7, 13, 17), (13, .astore 4, 15, 0), (15, .iconst 1, 16, 0), (16, .ireturn, 17, 0), (17, .iconst 0, 18, 0), (18, .ireturn, 19, 0)]
def M_La_remark : ax_M := (10, (some .int), tb_La_remark, [(0, 10, 13, 13)], false)
def m_La_remark : Nat := 115
def tb_La_least : List (Nat × Instr × Nat × Nat) := [(0, .aload_n 2, 1, 0), (1, .iconst 0, 2, 0), (2, .aload_n 0, 3, 0), (3, .iload_n 1, 4, 0), (4, .invokevirtual 28, 7, 0), (7, .i2l, 8, 0), (8, .lastore, 9, 0), (9, .goto 6, 12, 15), (12, .astore_n 3, 13, 0), (13, .iconst 1, 14, 0), (14, .ireturn, 15, 0), (15, .iconst 0, 16, 0), (16, .ireturn, 17, 0)]
def M_La_least : ax_M := (10, (some .int), tb_La_least, [(0, 9, 12, 13)], false)
def m_La_least : Nat := 116
def tb_La_price : List (Nat × Instr × Nat × Nat) := [(0, .aload 5, 2, 0), (2, .iconst 0, 3, 0), (3, .aload_n 0, 4, 0), (4, .iload_n 1, 5, 0), (5, .iload_n 2, 6, 0), (6, .lload_n 3, 7, 0), (7, .invokevirtual 32, 10, 0), (10, .lastore, 11, 0), (11, .goto 11, 14, 22), (14, .astore 6, 16, 0), (16, .iconst 1, 17, 0), (17, .ireturn, 18, 0), (18, .astore 6, 20, 0), (20, .iconst 2, 21, 0), (21, .ireturn, 22, 0), (22, .iconst 0, 23, 0), (23, .ireturn, 24, 0)]
def M_La_price : ax_M := (10, (some .int), tb_La_price, [(0, 11, 14, 13), (0, 11, 18, 15)], false)
def m_La_price : Nat := 117
def tb_La_share : List (Nat × Instr × Nat × Nat) := [(0, .aload 6, 2, 0), (2, .iconst 0, 3, 0), (3, .aload_n 0, 4, 0), (4, .lload_n 1, 5, 0), (5, .lload_n 3, 6, 0), (6, .iload 5, 8, 0), (8, .invokevirtual 36, 11, 0), (11, .lastore, 12, 0), (12, .goto 11, 15, 23), (15, .astore 7, 17, 0), (17, .iconst 1, 18, 0), (18, .ireturn, 19, 0), (19, .astore 7, 21, 0), (21, .iconst 2, 22, 0), (22, .ireturn, 23, 0), (23, .iconst 0, 24, 0), (24, .ireturn, 25, 0)]
def M_La_share : ax_M := (10, (some .int), tb_La_share, [(0, 12, 15, 13), (0, 12, 19, 15)], false)
def m_La_share : Nat := 118
def tb_La_balance : List (Nat × Instr × Nat × Nat) := [(0, .aload 4, 2, 0), (2, .iconst 0, 3, 0), (3, .aload_n 0, 4, 0), (4, .iload_n 1, 5, 0), (5, .iload_n 2, 6, 0), (6, .iload_n 3, 7, 0), (7, .invokevirtual 40, 10, 0), (10, .lastore, 11, 0), (11, .goto 7, 14, 18), (14, .astore 5, 16, 0), (16, .iconst 1, 17, 0), (17, .ireturn, 18, 0), (18, .iconst 0, 19, 0), (19, .ireturn, 20, 0)]
def M_La_balance : ax_M := (10, (some .int), tb_La_balance, [(0, 11, 14, 13)], false)
def m_La_balance : Nat := 119
def tb_La_quote : List (Nat × Instr × Nat × Nat) := [(0, .aload 4, 2, 0), (2, .iconst 0, 3, 0), (3, .aload_n 0, 4, 0), (4, .iload_n 1, 5, 0), (5, .lload_n 2, 6, 0), (6, .invokevirtual 44, 9, 0), (9, .i2l, 10, 0), (10, .lastore, 11, 0), (11, .goto 7, 14, 18), (14, .astore 5, 16, 0), (16, .iconst 1, 17, 0), (17, .ireturn, 18, 0), (18, .iconst 0, 19, 0), (19, .ireturn, 20, 0)]
def M_La_quote : ax_M := (10, (some .int), tb_La_quote, [(0, 11, 14, 13)], false)
def m_La_quote : Nat := 120
def tb_La_copper : List (Nat × Instr × Nat × Nat) := [(0, .aload 7, 2, 0), (2, .iconst 0, 3, 0), (3, .aload_n 0, 4, 0), (4, .iload_n 1, 5, 0), (5, .iload_n 2, 6, 0), (6, .lload_n 3, 7, 0), (7, .lload 5, 9, 0), (9, .invokevirtual 48, 12, 0), (12, .ifCond .eq 7, 15, 19), (15, .lconst 1, 16, 0), (16, .goto 4, 19, 20), (19, .lconst 0, 20, 0), (20, .lastore, 21, 0), (21, .goto 11, 24, 32), (24, .astore 8, 26, 0), (26, .iconst 1, 27, 0), (27, .ireturn, 28, 0), (28, .astore 8, 30, 0), (30, .iconst 2, 31, 0), (31, .ireturn, 32, 0), (32, .iconst 0, 33, 0), (33, .ireturn, 34, 0)]
def M_La_copper : ax_M := (10, (some .int), tb_La_copper, [(0, 21, 24, 13), (0, 21, 28, 15)], false)
def m_La_copper : Nat := 121
def tb_La_best : List (Nat × Instr × Nat × Nat) := [(0, .aload_n 3, 1, 0), (1, .iconst 0, 2, 0), (2, .aload_n 0, 3, 0), (3, .lload_n 1, 4, 0), (4, .invokevirtual 52, 7, 0), (7, .i2l, 8, 0), (8, .lastore, 9, 0), (9, .goto 7, 12, 16), (12, .astore 4, 14, 0), (14, .iconst 1, 15, 0), (15, .ireturn, 16, 0), (16, .iconst 0, 17, 0), (17, .ireturn, 18, 0)]
def M_La_best : ax_M := (10, (some .int), tb_La_best, [(0, 9, 12, 15)], false)
def m_La_best : Nat := 122
def tb_La_order : List (Nat × Instr × Nat × Nat) := [(0, .aload 6, 2, 0), (2, .iconst 0, 3, 0), (3, .aload_n 0, 4, 0), (4, .iload_n 1, 5, 0), (5, .lload_n 2, 6, 0), (6, .lload 4, 8, 0), (8, .invokevirtual 56, 11, 0), (11, .i2l, 12, 0), (12, .lastore, 13, 0), (13, .goto 11, 16, 24), (16, .astore 7, 18, 0), (18, .iconst 1, 19, 0), (19, .ireturn, 20, 0), (20, .astore 7, 22, 0), (22, .iconst 2, 23, 0), (23, .ireturn, 24, 0), (24, .iconst 0, 25, 0), (25, .ireturn, 26, 0)]
def M_La_order : ax_M := (10, (some .int), tb_La_order, [(0, 13, 16, 13), (0, 13, 20, 15)], false)
def m_La_order : Nat := 123
def tb_La_history : List (Nat × Instr × Nat × Nat) := [(0, .aload_n 3, 1, 0), (1, .iconst 0, 2, 0), (2, .aload_n 0, 3, 0), (3, .iload_n 1, 4, 0), (4, .iload_n 2, 5, 0), (5, .invokevirtual 60, 8, 0), (8, .i2l, 9, 0), (9, .lastore, 10, 0), (10, .goto 7, 13, 17), (13, .astore 4, 15, 0), (15, .iconst 1, 16, 0), (16, .ireturn, 17, 0), (17, .iconst 0, 18, 0), (18, .ireturn, 19, 0)]
def M_La_history : ax_M := (10, (some .int), tb_La_history, [(0, 10, 13, 13)], false)
def m_La_history : Nat := 124
def tb_La_law_1 : List (Nat × Instr × Nat × Nat) := [(0, .new 8, 3, 0), (3, .dup, 4, 0), (4, .invokespecial 63, 7, 0), (7, .astore_n 1, 8, 0), (8, .new 64, 11, 0), (11, .dup, 12, 0), (12, .invokespecial 66, 15, 0), (15, .astore_n 2, 16, 0), (16, .iconst 1, 17, 0), (17, .newarray .long, 19, 0), (19, .astore_n 3, 20, 0), (20, .iconst 0, 21, 0), (21, .istore 4, 23, 0), (23, .iload 4, 25, 0), (25, .aload_n 0, 26, 0), (26, .arraylength, 27, 0), (27, .bipush 7, 29, 0), (29, .isub, 30, 0), (30, .if_icmp .gt 1498, 33, 1528), (33, .aload_n 0, 34, 0), (34, .iload 4, 36, 0), (36, .iaload, 37, 0), (37, .bipush 15, 39, 0), (39, .iand, 40, 0), (40, .tableswitch 1482 0 15 #[80, 105, 118, 230, 381, 449, 517, 573, 684, 827, 906, 1006, 1171, 1259, 1403, 1471], 120, 0), (120, .aload_n 1, 121, 0), (121, .aload_n 0, 122, 0), (122, .iload 4, 124, 0), (124, .iconst 1, 125, 0), (125, .iadd, 126, 0)]
def tb_La_law_2 : List (Nat × Instr × Nat × Nat) := [(126, .iaload, 127, 0), (127, .invokevirtual 67, 130, 0), (130, .aload_n 2, 131, 0), (131, .aload_n 0, 132, 0), (132, .iload 4, 134, 0), (134, .iconst 1, 135, 0), (135, .iadd, 136, 0), (136, .iaload, 137, 0), (137, .invokevirtual 71, 140, 0), (140, .if_icmp .eq 1382, 143, 1522), (143, .iconst 0, 144, 0), (144, .ireturn, 145, 0), (145, .aload_n 1, 146, 0), (146, .invokevirtual 72, 149, 0), (149, .aload_n 2, 150, 0), (150, .invokevirtual 76, 153, 0), (153, .if_icmp .eq 1369, 156, 1522), (156, .iconst 0, 157, 0), (157, .ireturn, 158, 0), (158, .aload_n 1, 159, 0), (159, .aload_n 0, 160, 0), (160, .iload 4, 162, 0), (162, .iconst 1, 163, 0), (163, .iadd, 164, 0), (164, .iaload, 165, 0), (165, .aload_n 0, 166, 0), (166, .iload 4, 168, 0), (168, .iconst 2, 169, 0), (169, .iadd, 170, 0), (170, .iaload, 171, 0)]
def tb_La_law_3 : List (Nat × Instr × Nat × Nat) := [(171, .i2l, 172, 0), (172, .bipush 32, 174, 0), (174, .lshl, 175, 0), (175, .aload_n 0, 176, 0), (176, .iload 4, 178, 0), (178, .iconst 3, 179, 0), (179, .iadd, 180, 0), (180, .iaload, 181, 0), (181, .i2l, 182, 0), (182, .ldc2_w 77, 185, 0), (185, .land, 186, 0), (186, .lor, 187, 0), (187, .aload_n 0, 188, 0), (188, .iload 4, 190, 0), (190, .iconst 4, 191, 0), (191, .iadd, 192, 0), (192, .iaload, 193, 0), (193, .aload_n 3, 194, 0), (194, .invokestatic 79, 197, 0), (197, .istore 5, 199, 0), (199, .aload_n 2, 200, 0), (200, .aload_n 0, 201, 0), (201, .iload 4, 203, 0), (203, .iconst 1, 204, 0), (204, .iadd, 205, 0), (205, .iaload, 206, 0), (206, .aload_n 0, 207, 0), (207, .iload 4, 209, 0), (209, .iconst 2, 210, 0), (210, .iadd, 211, 0)]
def tb_La_law_4 : List (Nat × Instr × Nat × Nat) := [(211, .iaload, 212, 0), (212, .i2l, 213, 0), (213, .bipush 32, 215, 0), (215, .lshl, 216, 0), (216, .aload_n 0, 217, 0), (217, .iload 4, 219, 0), (219, .iconst 3, 220, 0), (220, .iadd, 221, 0), (221, .iaload, 222, 0), (222, .i2l, 223, 0), (223, .ldc2_w 77, 226, 0), (226, .land, 227, 0), (227, .lor, 228, 0), (228, .aload_n 0, 229, 0), (229, .iload 4, 231, 0), (231, .iconst 4, 232, 0), (232, .iadd, 233, 0), (233, .iaload, 234, 0), (234, .invokevirtual 84, 237, 0), (237, .istore 6, 239, 0), (239, .aload_n 2, 240, 0), (240, .invokevirtual 85, 243, 0), (243, .iload 5, 245, 0), (245, .if_icmp .eq 5, 248, 250), (248, .iconst 0, 249, 0), (249, .ireturn, 250, 0), (250, .iload 5, 252, 0), (252, .ifCond .ne 15, 255, 267), (255, .aload_n 3, 256, 0), (256, .iconst 0, 257, 0)]
def tb_La_law_5 : List (Nat × Instr × Nat × Nat) := [(257, .laload, 258, 0), (258, .iload 6, 260, 0), (260, .i2l, 261, 0), (261, .lcmp, 262, 0), (262, .ifCond .eq 5, 265, 267), (265, .iconst 0, 266, 0), (266, .ireturn, 267, 0), (267, .goto 1255, 270, 1522), (270, .aload_n 1, 271, 0), (271, .aload_n 0, 272, 0), (272, .iload 4, 274, 0), (274, .iconst 1, 275, 0), (275, .iadd, 276, 0), (276, .iaload, 277, 0), (277, .aload_n 0, 278, 0), (278, .iload 4, 280, 0), (280, .iconst 2, 281, 0), (281, .iadd, 282, 0), (282, .iaload, 283, 0), (283, .i2l, 284, 0), (284, .bipush 32, 286, 0), (286, .lshl, 287, 0), (287, .aload_n 0, 288, 0), (288, .iload 4, 290, 0), (290, .iconst 3, 291, 0), (291, .iadd, 292, 0), (292, .iaload, 293, 0), (293, .i2l, 294, 0), (294, .ldc2_w 77, 297, 0), (297, .land, 298, 0)]
def tb_La_law_6 : List (Nat × Instr × Nat × Nat) := [(298, .lor, 299, 0), (299, .aload_n 0, 300, 0), (300, .iload 4, 302, 0), (302, .iconst 4, 303, 0), (303, .iadd, 304, 0), (304, .iaload, 305, 0), (305, .i2l, 306, 0), (306, .bipush 32, 308, 0), (308, .lshl, 309, 0), (309, .aload_n 0, 310, 0), (310, .iload 4, 312, 0), (312, .iconst 5, 313, 0), (313, .iadd, 314, 0), (314, .iaload, 315, 0), (315, .i2l, 316, 0), (316, .ldc2_w 77, 319, 0), (319, .land, 320, 0), (320, .lor, 321, 0), (321, .aload_n 3, 322, 0), (322, .invokestatic 88, 325, 0), (325, .istore 5, 327, 0), (327, .aload_n 2, 328, 0), (328, .aload_n 0, 329, 0), (329, .iload 4, 331, 0), (331, .iconst 1, 332, 0), (332, .iadd, 333, 0), (333, .iaload, 334, 0), (334, .aload_n 0, 335, 0), (335, .iload 4, 337, 0), (337, .iconst 2, 338, 0)]
def tb_La_law_7 : List (Nat × Instr × Nat × Nat) := [(338, .iadd, 339, 0), (339, .iaload, 340, 0), (340, .i2l, 341, 0), (341, .bipush 32, 343, 0), (343, .lshl, 344, 0), (344, .aload_n 0, 345, 0), (345, .iload 4, 347, 0), (347, .iconst 3, 348, 0), (348, .iadd, 349, 0), (349, .iaload, 350, 0), (350, .i2l, 351, 0), (351, .ldc2_w 77, 354, 0), (354, .land, 355, 0), (355, .lor, 356, 0), (356, .aload_n 0, 357, 0), (357, .iload 4, 359, 0), (359, .iconst 4, 360, 0), (360, .iadd, 361, 0), (361, .iaload, 362, 0), (362, .i2l, 363, 0), (363, .bipush 32, 365, 0), (365, .lshl, 366, 0), (366, .aload_n 0, 367, 0), (367, .iload 4, 369, 0), (369, .iconst 5, 370, 0), (370, .iadd, 371, 0), (371, .iaload, 372, 0), (372, .i2l, 373, 0), (373, .ldc2_w 77, 376, 0), (376, .land, 377, 0)]
def tb_La_law_8 : List (Nat × Instr × Nat × Nat) := [(377, .lor, 378, 0), (378, .invokevirtual 91, 381, 0), (381, .istore 6, 383, 0), (383, .aload_n 2, 384, 0), (384, .invokevirtual 85, 387, 0), (387, .iload 5, 389, 0), (389, .if_icmp .eq 5, 392, 394), (392, .iconst 0, 393, 0), (393, .ireturn, 394, 0), (394, .iload 5, 396, 0), (396, .ifCond .ne 22, 399, 418), (399, .aload_n 3, 400, 0), (400, .iconst 0, 401, 0), (401, .laload, 402, 0), (402, .iload 6, 404, 0), (404, .ifCond .eq 7, 407, 411), (407, .lconst 1, 408, 0), (408, .goto 4, 411, 412), (411, .lconst 0, 412, 0), (412, .lcmp, 413, 0), (413, .ifCond .eq 5, 416, 418), (416, .iconst 0, 417, 0), (417, .ireturn, 418, 0), (418, .goto 1104, 421, 1522), (421, .aload_n 1, 422, 0), (422, .aload_n 0, 423, 0), (423, .iload 4, 425, 0), (425, .iconst 1, 426, 0), (426, .iadd, 427, 0), (427, .iaload, 428, 0)]
def tb_La_law_9 : List (Nat × Instr × Nat × Nat) := [(428, .aload_n 0, 429, 0), (429, .iload 4, 431, 0), (431, .iconst 2, 432, 0), (432, .iadd, 433, 0), (433, .iaload, 434, 0), (434, .aload_n 3, 435, 0), (435, .invokestatic 92, 438, 0), (438, .istore 5, 440, 0), (440, .aload_n 2, 441, 0), (441, .aload_n 0, 442, 0), (442, .iload 4, 444, 0), (444, .iconst 1, 445, 0), (445, .iadd, 446, 0), (446, .iaload, 447, 0), (447, .aload_n 0, 448, 0), (448, .iload 4, 450, 0), (450, .iconst 2, 451, 0), (451, .iadd, 452, 0), (452, .iaload, 453, 0), (453, .invokevirtual 95, 456, 0), (456, .istore 6, 458, 0), (458, .aload_n 2, 459, 0), (459, .invokevirtual 85, 462, 0), (462, .iload 5, 464, 0), (464, .if_icmp .eq 5, 467, 469), (467, .iconst 0, 468, 0), (468, .ireturn, 469, 0), (469, .iload 5, 471, 0), (471, .ifCond .ne 15, 474, 486), (474, .aload_n 3, 475, 0)]
def tb_La_law_10 : List (Nat × Instr × Nat × Nat) := [(475, .iconst 0, 476, 0), (476, .laload, 477, 0), (477, .iload 6, 479, 0), (479, .i2l, 480, 0), (480, .lcmp, 481, 0), (481, .ifCond .eq 5, 484, 486), (484, .iconst 0, 485, 0), (485, .ireturn, 486, 0), (486, .goto 1036, 489, 1522), (489, .aload_n 1, 490, 0), (490, .aload_n 0, 491, 0), (491, .iload 4, 493, 0), (493, .iconst 1, 494, 0), (494, .iadd, 495, 0), (495, .iaload, 496, 0), (496, .aload_n 0, 497, 0), (497, .iload 4, 499, 0), (499, .iconst 2, 500, 0), (500, .iadd, 501, 0), (501, .iaload, 502, 0), (502, .aload_n 3, 503, 0), (503, .invokestatic 96, 506, 0), (506, .istore 5, 508, 0), (508, .aload_n 2, 509, 0), (509, .aload_n 0, 510, 0), (510, .iload 4, 512, 0), (512, .iconst 1, 513, 0), (513, .iadd, 514, 0), (514, .iaload, 515, 0), (515, .aload_n 0, 516, 0)]
def tb_La_law_11 : List (Nat × Instr × Nat × Nat) := [(516, .iload 4, 518, 0), (518, .iconst 2, 519, 0), (519, .iadd, 520, 0), (520, .iaload, 521, 0), (521, .invokevirtual 98, 524, 0), (524, .istore 6, 526, 0), (526, .aload_n 2, 527, 0), (527, .invokevirtual 85, 530, 0), (530, .iload 5, 532, 0), (532, .if_icmp .eq 5, 535, 537), (535, .iconst 0, 536, 0), (536, .ireturn, 537, 0), (537, .iload 5, 539, 0), (539, .ifCond .ne 15, 542, 554), (542, .aload_n 3, 543, 0), (543, .iconst 0, 544, 0), (544, .laload, 545, 0), (545, .iload 6, 547, 0), (547, .i2l, 548, 0), (548, .lcmp, 549, 0), (549, .ifCond .eq 5, 552, 554), (552, .iconst 0, 553, 0), (553, .ireturn, 554, 0), (554, .goto 968, 557, 1522), (557, .aload_n 1, 558, 0), (558, .aload_n 0, 559, 0), (559, .iload 4, 561, 0), (561, .iconst 1, 562, 0), (562, .iadd, 563, 0), (563, .iaload, 564, 0)]
def tb_La_law_12 : List (Nat × Instr × Nat × Nat) := [(564, .aload_n 3, 565, 0), (565, .invokestatic 99, 568, 0), (568, .istore 5, 570, 0), (570, .aload_n 2, 571, 0), (571, .aload_n 0, 572, 0), (572, .iload 4, 574, 0), (574, .iconst 1, 575, 0), (575, .iadd, 576, 0), (576, .iaload, 577, 0), (577, .invokevirtual 102, 580, 0), (580, .istore 6, 582, 0), (582, .aload_n 2, 583, 0), (583, .invokevirtual 85, 586, 0), (586, .iload 5, 588, 0), (588, .if_icmp .eq 5, 591, 593), (591, .iconst 0, 592, 0), (592, .ireturn, 593, 0), (593, .iload 5, 595, 0), (595, .ifCond .ne 15, 598, 610), (598, .aload_n 3, 599, 0), (599, .iconst 0, 600, 0), (600, .laload, 601, 0), (601, .iload 6, 603, 0), (603, .i2l, 604, 0), (604, .lcmp, 605, 0), (605, .ifCond .eq 5, 608, 610), (608, .iconst 0, 609, 0), (609, .ireturn, 610, 0), (610, .goto 912, 613, 1522), (613, .aload_n 1, 614, 0)]
def tb_La_law_13 : List (Nat × Instr × Nat × Nat) := [(614, .aload_n 0, 615, 0), (615, .iload 4, 617, 0), (617, .iconst 1, 618, 0), (618, .iadd, 619, 0), (619, .iaload, 620, 0), (620, .aload_n 0, 621, 0), (621, .iload 4, 623, 0), (623, .iconst 2, 624, 0), (624, .iadd, 625, 0), (625, .iaload, 626, 0), (626, .aload_n 0, 627, 0), (627, .iload 4, 629, 0), (629, .iconst 3, 630, 0), (630, .iadd, 631, 0), (631, .iaload, 632, 0), (632, .i2l, 633, 0), (633, .bipush 32, 635, 0), (635, .lshl, 636, 0), (636, .aload_n 0, 637, 0), (637, .iload 4, 639, 0), (639, .iconst 4, 640, 0), (640, .iadd, 641, 0), (641, .iaload, 642, 0), (642, .i2l, 643, 0), (643, .ldc2_w 77, 646, 0), (646, .land, 647, 0), (647, .lor, 648, 0), (648, .aload_n 3, 649, 0), (649, .invokestatic 103, 652, 0), (652, .istore 5, 654, 0)]
def tb_La_law_14 : List (Nat × Instr × Nat × Nat) := [(654, .aload_n 2, 655, 0), (655, .aload_n 0, 656, 0), (656, .iload 4, 658, 0), (658, .iconst 1, 659, 0), (659, .iadd, 660, 0), (660, .iaload, 661, 0), (661, .aload_n 0, 662, 0), (662, .iload 4, 664, 0), (664, .iconst 2, 665, 0), (665, .iadd, 666, 0), (666, .iaload, 667, 0), (667, .aload_n 0, 668, 0), (668, .iload 4, 670, 0), (670, .iconst 3, 671, 0), (671, .iadd, 672, 0), (672, .iaload, 673, 0), (673, .i2l, 674, 0), (674, .bipush 32, 676, 0), (676, .lshl, 677, 0), (677, .aload_n 0, 678, 0), (678, .iload 4, 680, 0), (680, .iconst 4, 681, 0), (681, .iadd, 682, 0), (682, .iaload, 683, 0), (683, .i2l, 684, 0), (684, .ldc2_w 77, 687, 0), (687, .land, 688, 0), (688, .lor, 689, 0), (689, .invokevirtual 106, 692, 0), (692, .lstore 6, 694, 0)]
def tb_La_law_15 : List (Nat × Instr × Nat × Nat) := [(694, .aload_n 2, 695, 0), (695, .invokevirtual 85, 698, 0), (698, .iload 5, 700, 0), (700, .if_icmp .eq 5, 703, 705), (703, .iconst 0, 704, 0), (704, .ireturn, 705, 0), (705, .iload 5, 707, 0), (707, .ifCond .ne 14, 710, 721), (710, .aload_n 3, 711, 0), (711, .iconst 0, 712, 0), (712, .laload, 713, 0), (713, .lload 6, 715, 0), (715, .lcmp, 716, 0), (716, .ifCond .eq 5, 719, 721), (719, .iconst 0, 720, 0), (720, .ireturn, 721, 0), (721, .goto 801, 724, 1522), (724, .aload_n 1, 725, 0), (725, .aload_n 0, 726, 0), (726, .iload 4, 728, 0), (728, .iconst 1, 729, 0), (729, .iadd, 730, 0), (730, .iaload, 731, 0), (731, .i2l, 732, 0), (732, .bipush 32, 734, 0), (734, .lshl, 735, 0), (735, .aload_n 0, 736, 0), (736, .iload 4, 738, 0), (738, .iconst 2, 739, 0), (739, .iadd, 740, 0)]
def tb_La_law_16 : List (Nat × Instr × Nat × Nat) := [(740, .iaload, 741, 0), (741, .i2l, 742, 0), (742, .ldc2_w 77, 745, 0), (745, .land, 746, 0), (746, .lor, 747, 0), (747, .aload_n 0, 748, 0), (748, .iload 4, 750, 0), (750, .iconst 3, 751, 0), (751, .iadd, 752, 0), (752, .iaload, 753, 0), (753, .i2l, 754, 0), (754, .bipush 32, 756, 0), (756, .lshl, 757, 0), (757, .aload_n 0, 758, 0), (758, .iload 4, 760, 0), (760, .iconst 4, 761, 0), (761, .iadd, 762, 0), (762, .iaload, 763, 0), (763, .i2l, 764, 0), (764, .ldc2_w 77, 767, 0), (767, .land, 768, 0), (768, .lor, 769, 0), (769, .aload_n 0, 770, 0), (770, .iload 4, 772, 0), (772, .iconst 5, 773, 0), (773, .iadd, 774, 0), (774, .iaload, 775, 0), (775, .aload_n 3, 776, 0), (776, .invokestatic 107, 779, 0), (779, .istore 5, 781, 0)]
def tb_La_law_17 : List (Nat × Instr × Nat × Nat) := [(781, .aload_n 2, 782, 0), (782, .aload_n 0, 783, 0), (783, .iload 4, 785, 0), (785, .iconst 1, 786, 0), (786, .iadd, 787, 0), (787, .iaload, 788, 0), (788, .i2l, 789, 0), (789, .bipush 32, 791, 0), (791, .lshl, 792, 0), (792, .aload_n 0, 793, 0), (793, .iload 4, 795, 0), (795, .iconst 2, 796, 0), (796, .iadd, 797, 0), (797, .iaload, 798, 0), (798, .i2l, 799, 0), (799, .ldc2_w 77, 802, 0), (802, .land, 803, 0), (803, .lor, 804, 0), (804, .aload_n 0, 805, 0), (805, .iload 4, 807, 0), (807, .iconst 3, 808, 0), (808, .iadd, 809, 0), (809, .iaload, 810, 0), (810, .i2l, 811, 0), (811, .bipush 32, 813, 0), (813, .lshl, 814, 0), (814, .aload_n 0, 815, 0), (815, .iload 4, 817, 0), (817, .iconst 4, 818, 0), (818, .iadd, 819, 0)]
def tb_La_law_18 : List (Nat × Instr × Nat × Nat) := [(819, .iaload, 820, 0), (820, .i2l, 821, 0), (821, .ldc2_w 77, 824, 0), (824, .land, 825, 0), (825, .lor, 826, 0), (826, .aload_n 0, 827, 0), (827, .iload 4, 829, 0), (829, .iconst 5, 830, 0), (830, .iadd, 831, 0), (831, .iaload, 832, 0), (832, .invokevirtual 110, 835, 0), (835, .lstore 6, 837, 0), (837, .aload_n 2, 838, 0), (838, .invokevirtual 85, 841, 0), (841, .iload 5, 843, 0), (843, .if_icmp .eq 5, 846, 848), (846, .iconst 0, 847, 0), (847, .ireturn, 848, 0), (848, .iload 5, 850, 0), (850, .ifCond .ne 14, 853, 864), (853, .aload_n 3, 854, 0), (854, .iconst 0, 855, 0), (855, .laload, 856, 0), (856, .lload 6, 858, 0), (858, .lcmp, 859, 0), (859, .ifCond .eq 5, 862, 864), (862, .iconst 0, 863, 0), (863, .ireturn, 864, 0), (864, .goto 658, 867, 1522), (867, .aload_n 1, 868, 0)]
def tb_La_law_19 : List (Nat × Instr × Nat × Nat) := [(868, .aload_n 0, 869, 0), (869, .iload 4, 871, 0), (871, .iconst 1, 872, 0), (872, .iadd, 873, 0), (873, .iaload, 874, 0), (874, .aload_n 0, 875, 0), (875, .iload 4, 877, 0), (877, .iconst 2, 878, 0), (878, .iadd, 879, 0), (879, .iaload, 880, 0), (880, .aload_n 0, 881, 0), (881, .iload 4, 883, 0), (883, .iconst 3, 884, 0), (884, .iadd, 885, 0), (885, .iaload, 886, 0), (886, .aload_n 3, 887, 0), (887, .invokestatic 111, 890, 0), (890, .istore 5, 892, 0), (892, .aload_n 2, 893, 0), (893, .aload_n 0, 894, 0), (894, .iload 4, 896, 0), (896, .iconst 1, 897, 0), (897, .iadd, 898, 0), (898, .iaload, 899, 0), (899, .aload_n 0, 900, 0), (900, .iload 4, 902, 0), (902, .iconst 2, 903, 0), (903, .iadd, 904, 0), (904, .iaload, 905, 0), (905, .aload_n 0, 906, 0)]
def tb_La_law_20 : List (Nat × Instr × Nat × Nat) := [(906, .iload 4, 908, 0), (908, .iconst 3, 909, 0), (909, .iadd, 910, 0), (910, .iaload, 911, 0), (911, .invokevirtual 114, 914, 0), (914, .lstore 6, 916, 0), (916, .aload_n 2, 917, 0), (917, .invokevirtual 85, 920, 0), (920, .iload 5, 922, 0), (922, .if_icmp .eq 5, 925, 927), (925, .iconst 0, 926, 0), (926, .ireturn, 927, 0), (927, .iload 5, 929, 0), (929, .ifCond .ne 14, 932, 943), (932, .aload_n 3, 933, 0), (933, .iconst 0, 934, 0), (934, .laload, 935, 0), (935, .lload 6, 937, 0), (937, .lcmp, 938, 0), (938, .ifCond .eq 5, 941, 943), (941, .iconst 0, 942, 0), (942, .ireturn, 943, 0), (943, .goto 579, 946, 1522), (946, .aload_n 1, 947, 0), (947, .aload_n 0, 948, 0), (948, .iload 4, 950, 0), (950, .iconst 1, 951, 0), (951, .iadd, 952, 0), (952, .iaload, 953, 0), (953, .aload_n 0, 954, 0)]
def tb_La_law_21 : List (Nat × Instr × Nat × Nat) := [(954, .iload 4, 956, 0), (956, .iconst 2, 957, 0), (957, .iadd, 958, 0), (958, .iaload, 959, 0), (959, .i2l, 960, 0), (960, .bipush 32, 962, 0), (962, .lshl, 963, 0), (963, .aload_n 0, 964, 0), (964, .iload 4, 966, 0), (966, .iconst 3, 967, 0), (967, .iadd, 968, 0), (968, .iaload, 969, 0), (969, .i2l, 970, 0), (970, .ldc2_w 77, 973, 0), (973, .land, 974, 0), (974, .lor, 975, 0), (975, .aload_n 3, 976, 0), (976, .invokestatic 115, 979, 0), (979, .istore 5, 981, 0), (981, .aload_n 2, 982, 0), (982, .aload_n 0, 983, 0), (983, .iload 4, 985, 0), (985, .iconst 1, 986, 0), (986, .iadd, 987, 0), (987, .iaload, 988, 0), (988, .aload_n 0, 989, 0), (989, .iload 4, 991, 0), (991, .iconst 2, 992, 0), (992, .iadd, 993, 0), (993, .iaload, 994, 0)]
def tb_La_law_22 : List (Nat × Instr × Nat × Nat) := [(994, .i2l, 995, 0), (995, .bipush 32, 997, 0), (997, .lshl, 998, 0), (998, .aload_n 0, 999, 0), (999, .iload 4, 1001, 0), (1001, .iconst 3, 1002, 0), (1002, .iadd, 1003, 0), (1003, .iaload, 1004, 0), (1004, .i2l, 1005, 0), (1005, .ldc2_w 77, 1008, 0), (1008, .land, 1009, 0), (1009, .lor, 1010, 0), (1010, .invokevirtual 118, 1013, 0), (1013, .istore 6, 1015, 0), (1015, .aload_n 2, 1016, 0), (1016, .invokevirtual 85, 1019, 0), (1019, .iload 5, 1021, 0), (1021, .if_icmp .eq 5, 1024, 1026), (1024, .iconst 0, 1025, 0), (1025, .ireturn, 1026, 0), (1026, .iload 5, 1028, 0), (1028, .ifCond .ne 15, 1031, 1043), (1031, .aload_n 3, 1032, 0), (1032, .iconst 0, 1033, 0), (1033, .laload, 1034, 0), (1034, .iload 6, 1036, 0), (1036, .i2l, 1037, 0), (1037, .lcmp, 1038, 0), (1038, .ifCond .eq 5, 1041, 1043), (1041, .iconst 0, 1042, 0)]
def tb_La_law_23 : List (Nat × Instr × Nat × Nat) := [(1042, .ireturn, 1043, 0), (1043, .goto 479, 1046, 1522), (1046, .aload_n 1, 1047, 0), (1047, .aload_n 0, 1048, 0), (1048, .iload 4, 1050, 0), (1050, .iconst 1, 1051, 0), (1051, .iadd, 1052, 0), (1052, .iaload, 1053, 0), (1053, .aload_n 0, 1054, 0), (1054, .iload 4, 1056, 0), (1056, .iconst 2, 1057, 0), (1057, .iadd, 1058, 0), (1058, .iaload, 1059, 0), (1059, .aload_n 0, 1060, 0), (1060, .iload 4, 1062, 0), (1062, .iconst 3, 1063, 0), (1063, .iadd, 1064, 0), (1064, .iaload, 1065, 0), (1065, .i2l, 1066, 0), (1066, .bipush 32, 1068, 0), (1068, .lshl, 1069, 0), (1069, .aload_n 0, 1070, 0), (1070, .iload 4, 1072, 0), (1072, .iconst 4, 1073, 0), (1073, .iadd, 1074, 0), (1074, .iaload, 1075, 0), (1075, .i2l, 1076, 0), (1076, .ldc2_w 77, 1079, 0), (1079, .land, 1080, 0), (1080, .lor, 1081, 0)]
def tb_La_law_24 : List (Nat × Instr × Nat × Nat) := [(1081, .aload_n 0, 1082, 0), (1082, .iload 4, 1084, 0), (1084, .iconst 5, 1085, 0), (1085, .iadd, 1086, 0), (1086, .iaload, 1087, 0), (1087, .i2l, 1088, 0), (1088, .bipush 32, 1090, 0), (1090, .lshl, 1091, 0), (1091, .aload_n 0, 1092, 0), (1092, .iload 4, 1094, 0), (1094, .bipush 6, 1096, 0), (1096, .iadd, 1097, 0), (1097, .iaload, 1098, 0), (1098, .i2l, 1099, 0), (1099, .ldc2_w 77, 1102, 0), (1102, .land, 1103, 0), (1103, .lor, 1104, 0), (1104, .aload_n 3, 1105, 0), (1105, .invokestatic 119, 1108, 0), (1108, .istore 5, 1110, 0), (1110, .aload_n 2, 1111, 0), (1111, .aload_n 0, 1112, 0), (1112, .iload 4, 1114, 0), (1114, .iconst 1, 1115, 0), (1115, .iadd, 1116, 0), (1116, .iaload, 1117, 0), (1117, .aload_n 0, 1118, 0), (1118, .iload 4, 1120, 0), (1120, .iconst 2, 1121, 0), (1121, .iadd, 1122, 0)]
def tb_La_law_25 : List (Nat × Instr × Nat × Nat) := [(1122, .iaload, 1123, 0), (1123, .aload_n 0, 1124, 0), (1124, .iload 4, 1126, 0), (1126, .iconst 3, 1127, 0), (1127, .iadd, 1128, 0), (1128, .iaload, 1129, 0), (1129, .i2l, 1130, 0), (1130, .bipush 32, 1132, 0), (1132, .lshl, 1133, 0), (1133, .aload_n 0, 1134, 0), (1134, .iload 4, 1136, 0), (1136, .iconst 4, 1137, 0), (1137, .iadd, 1138, 0), (1138, .iaload, 1139, 0), (1139, .i2l, 1140, 0), (1140, .ldc2_w 77, 1143, 0), (1143, .land, 1144, 0), (1144, .lor, 1145, 0), (1145, .aload_n 0, 1146, 0), (1146, .iload 4, 1148, 0), (1148, .iconst 5, 1149, 0), (1149, .iadd, 1150, 0), (1150, .iaload, 1151, 0), (1151, .i2l, 1152, 0), (1152, .bipush 32, 1154, 0), (1154, .lshl, 1155, 0), (1155, .aload_n 0, 1156, 0), (1156, .iload 4, 1158, 0), (1158, .bipush 6, 1160, 0), (1160, .iadd, 1161, 0)]
def tb_La_law_26 : List (Nat × Instr × Nat × Nat) := [(1161, .iaload, 1162, 0), (1162, .i2l, 1163, 0), (1163, .ldc2_w 77, 1166, 0), (1166, .land, 1167, 0), (1167, .lor, 1168, 0), (1168, .invokevirtual 122, 1171, 0), (1171, .istore 6, 1173, 0), (1173, .aload_n 2, 1174, 0), (1174, .invokevirtual 85, 1177, 0), (1177, .iload 5, 1179, 0), (1179, .if_icmp .eq 5, 1182, 1184), (1182, .iconst 0, 1183, 0), (1183, .ireturn, 1184, 0), (1184, .iload 5, 1186, 0), (1186, .ifCond .ne 22, 1189, 1208), (1189, .aload_n 3, 1190, 0), (1190, .iconst 0, 1191, 0), (1191, .laload, 1192, 0), (1192, .iload 6, 1194, 0), (1194, .ifCond .eq 7, 1197, 1201), (1197, .lconst 1, 1198, 0), (1198, .goto 4, 1201, 1202), (1201, .lconst 0, 1202, 0), (1202, .lcmp, 1203, 0), (1203, .ifCond .eq 5, 1206, 1208), (1206, .iconst 0, 1207, 0), (1207, .ireturn, 1208, 0), (1208, .goto 314, 1211, 1522), (1211, .aload_n 1, 1212, 0), (1212, .aload_n 0, 1213, 0)]
def tb_La_law_27 : List (Nat × Instr × Nat × Nat) := [(1213, .iload 4, 1215, 0), (1215, .iconst 1, 1216, 0), (1216, .iadd, 1217, 0), (1217, .iaload, 1218, 0), (1218, .i2l, 1219, 0), (1219, .bipush 32, 1221, 0), (1221, .lshl, 1222, 0), (1222, .aload_n 0, 1223, 0), (1223, .iload 4, 1225, 0), (1225, .iconst 2, 1226, 0), (1226, .iadd, 1227, 0), (1227, .iaload, 1228, 0), (1228, .i2l, 1229, 0), (1229, .ldc2_w 77, 1232, 0), (1232, .land, 1233, 0), (1233, .lor, 1234, 0), (1234, .aload_n 3, 1235, 0), (1235, .invokestatic 123, 1238, 0), (1238, .istore 5, 1240, 0), (1240, .aload_n 2, 1241, 0), (1241, .aload_n 0, 1242, 0), (1242, .iload 4, 1244, 0), (1244, .iconst 1, 1245, 0), (1245, .iadd, 1246, 0), (1246, .iaload, 1247, 0), (1247, .i2l, 1248, 0), (1248, .bipush 32, 1250, 0), (1250, .lshl, 1251, 0), (1251, .aload_n 0, 1252, 0), (1252, .iload 4, 1254, 0)]
def tb_La_law_28 : List (Nat × Instr × Nat × Nat) := [(1254, .iconst 2, 1255, 0), (1255, .iadd, 1256, 0), (1256, .iaload, 1257, 0), (1257, .i2l, 1258, 0), (1258, .ldc2_w 77, 1261, 0), (1261, .land, 1262, 0), (1262, .lor, 1263, 0), (1263, .invokevirtual 126, 1266, 0), (1266, .istore 6, 1268, 0), (1268, .aload_n 2, 1269, 0), (1269, .invokevirtual 85, 1272, 0), (1272, .iload 5, 1274, 0), (1274, .if_icmp .eq 5, 1277, 1279), (1277, .iconst 0, 1278, 0), (1278, .ireturn, 1279, 0), (1279, .iload 5, 1281, 0), (1281, .ifCond .ne 15, 1284, 1296), (1284, .aload_n 3, 1285, 0), (1285, .iconst 0, 1286, 0), (1286, .laload, 1287, 0), (1287, .iload 6, 1289, 0), (1289, .i2l, 1290, 0), (1290, .lcmp, 1291, 0), (1291, .ifCond .eq 5, 1294, 1296), (1294, .iconst 0, 1295, 0), (1295, .ireturn, 1296, 0), (1296, .goto 226, 1299, 1522), (1299, .aload_n 1, 1300, 0), (1300, .aload_n 0, 1301, 0), (1301, .iload 4, 1303, 0)]
def tb_La_law_29 : List (Nat × Instr × Nat × Nat) := [(1303, .iconst 1, 1304, 0), (1304, .iadd, 1305, 0), (1305, .iaload, 1306, 0), (1306, .aload_n 0, 1307, 0), (1307, .iload 4, 1309, 0), (1309, .iconst 2, 1310, 0), (1310, .iadd, 1311, 0), (1311, .iaload, 1312, 0), (1312, .i2l, 1313, 0), (1313, .bipush 32, 1315, 0), (1315, .lshl, 1316, 0), (1316, .aload_n 0, 1317, 0), (1317, .iload 4, 1319, 0), (1319, .iconst 3, 1320, 0), (1320, .iadd, 1321, 0), (1321, .iaload, 1322, 0), (1322, .i2l, 1323, 0), (1323, .ldc2_w 77, 1326, 0), (1326, .land, 1327, 0), (1327, .lor, 1328, 0), (1328, .aload_n 0, 1329, 0), (1329, .iload 4, 1331, 0), (1331, .iconst 4, 1332, 0), (1332, .iadd, 1333, 0), (1333, .iaload, 1334, 0), (1334, .i2l, 1335, 0), (1335, .bipush 32, 1337, 0), (1337, .lshl, 1338, 0), (1338, .aload_n 0, 1339, 0), (1339, .iload 4, 1341, 0)]
def tb_La_law_30 : List (Nat × Instr × Nat × Nat) := [(1341, .iconst 5, 1342, 0), (1342, .iadd, 1343, 0), (1343, .iaload, 1344, 0), (1344, .i2l, 1345, 0), (1345, .ldc2_w 77, 1348, 0), (1348, .land, 1349, 0), (1349, .lor, 1350, 0), (1350, .aload_n 3, 1351, 0), (1351, .invokestatic 127, 1354, 0), (1354, .istore 5, 1356, 0), (1356, .aload_n 2, 1357, 0), (1357, .aload_n 0, 1358, 0), (1358, .iload 4, 1360, 0), (1360, .iconst 1, 1361, 0), (1361, .iadd, 1362, 0), (1362, .iaload, 1363, 0), (1363, .aload_n 0, 1364, 0), (1364, .iload 4, 1366, 0), (1366, .iconst 2, 1367, 0), (1367, .iadd, 1368, 0), (1368, .iaload, 1369, 0), (1369, .i2l, 1370, 0), (1370, .bipush 32, 1372, 0), (1372, .lshl, 1373, 0), (1373, .aload_n 0, 1374, 0), (1374, .iload 4, 1376, 0), (1376, .iconst 3, 1377, 0), (1377, .iadd, 1378, 0), (1378, .iaload, 1379, 0), (1379, .i2l, 1380, 0)]
def tb_La_law_31 : List (Nat × Instr × Nat × Nat) := [(1380, .ldc2_w 77, 1383, 0), (1383, .land, 1384, 0), (1384, .lor, 1385, 0), (1385, .aload_n 0, 1386, 0), (1386, .iload 4, 1388, 0), (1388, .iconst 4, 1389, 0), (1389, .iadd, 1390, 0), (1390, .iaload, 1391, 0), (1391, .i2l, 1392, 0), (1392, .bipush 32, 1394, 0), (1394, .lshl, 1395, 0), (1395, .aload_n 0, 1396, 0), (1396, .iload 4, 1398, 0), (1398, .iconst 5, 1399, 0), (1399, .iadd, 1400, 0), (1400, .iaload, 1401, 0), (1401, .i2l, 1402, 0), (1402, .ldc2_w 77, 1405, 0), (1405, .land, 1406, 0), (1406, .lor, 1407, 0), (1407, .invokevirtual 129, 1410, 0), (1410, .istore 6, 1412, 0), (1412, .aload_n 2, 1413, 0), (1413, .invokevirtual 85, 1416, 0), (1416, .iload 5, 1418, 0), (1418, .if_icmp .eq 5, 1421, 1423), (1421, .iconst 0, 1422, 0), (1422, .ireturn, 1423, 0), (1423, .iload 5, 1425, 0), (1425, .ifCond .ne 15, 1428, 1440)]
def tb_La_law_32 : List (Nat × Instr × Nat × Nat) := [(1428, .aload_n 3, 1429, 0), (1429, .iconst 0, 1430, 0), (1430, .laload, 1431, 0), (1431, .iload 6, 1433, 0), (1433, .i2l, 1434, 0), (1434, .lcmp, 1435, 0), (1435, .ifCond .eq 5, 1438, 1440), (1438, .iconst 0, 1439, 0), (1439, .ireturn, 1440, 0), (1440, .goto 82, 1443, 1522), (1443, .aload_n 1, 1444, 0), (1444, .aload_n 0, 1445, 0), (1445, .iload 4, 1447, 0), (1447, .iconst 1, 1448, 0), (1448, .iadd, 1449, 0), (1449, .iaload, 1450, 0), (1450, .aload_n 0, 1451, 0), (1451, .iload 4, 1453, 0), (1453, .iconst 2, 1454, 0), (1454, .iadd, 1455, 0), (1455, .iaload, 1456, 0), (1456, .aload_n 3, 1457, 0), (1457, .invokestatic 130, 1460, 0), (1460, .istore 5, 1462, 0), (1462, .aload_n 2, 1463, 0), (1463, .aload_n 0, 1464, 0), (1464, .iload 4, 1466, 0), (1466, .iconst 1, 1467, 0), (1467, .iadd, 1468, 0), (1468, .iaload, 1469, 0)]
def tb_La_law_33 : List (Nat × Instr × Nat × Nat) := [(1469, .aload_n 0, 1470, 0), (1470, .iload 4, 1472, 0), (1472, .iconst 2, 1473, 0), (1473, .iadd, 1474, 0), (1474, .iaload, 1475, 0), (1475, .invokevirtual 132, 1478, 0), (1478, .istore 6, 1480, 0), (1480, .aload_n 2, 1481, 0), (1481, .invokevirtual 85, 1484, 0), (1484, .iload 5, 1486, 0), (1486, .if_icmp .eq 5, 1489, 1491), (1489, .iconst 0, 1490, 0), (1490, .ireturn, 1491, 0), (1491, .iload 5, 1493, 0), (1493, .ifCond .ne 15, 1496, 1508), (1496, .aload_n 3, 1497, 0), (1497, .iconst 0, 1498, 0), (1498, .laload, 1499, 0), (1499, .iload 6, 1501, 0), (1501, .i2l, 1502, 0), (1502, .lcmp, 1503, 0), (1503, .ifCond .eq 5, 1506, 1508), (1506, .iconst 0, 1507, 0), (1507, .ireturn, 1508, 0), (1508, .goto 14, 1511, 1522), (1511, .aload_n 1, 1512, 0), (1512, .invokevirtual 133, 1515, 0), (1515, .aload_n 2, 1516, 0), (1516, .invokevirtual 136, 1519, 0), (1519, .goto 3, 1522, 1522)]
def tb_La_law_34 : List (Nat × Instr × Nat × Nat) := [(1522, .iinc 4 7, 1525, 0), (1525, .goto (-1502), 1528, 23), (1528, .iconst 1, 1529, 0), (1529, .ireturn, 1530, 0)]
def tb_La_law : List (Nat × Instr × Nat × Nat) := tb_La_law_1 ++ (tb_La_law_2 ++ (tb_La_law_3 ++ (tb_La_law_4 ++ (tb_La_law_5 ++ (tb_La_law_6 ++ (tb_La_law_7 ++ (tb_La_law_8 ++ (tb_La_law_9 ++ (tb_La_law_10 ++ (tb_La_law_11 ++ (tb_La_law_12 ++ (tb_La_law_13 ++ (tb_La_law_14 ++ (tb_La_law_15 ++ (tb_La_law_16 ++ (tb_La_law_17 ++ (tb_La_law_18 ++ (tb_La_law_19 ++ (tb_La_law_20 ++ (tb_La_law_21 ++ (tb_La_law_22 ++ (tb_La_law_23 ++ (tb_La_law_24 ++ (tb_La_law_25 ++ (tb_La_law_26 ++ (tb_La_law_27 ++ (tb_La_law_28 ++ (tb_La_law_29 ++ (tb_La_law_30 ++ (tb_La_law_31 ++ (tb_La_law_32 ++ (tb_La_law_33 ++ tb_La_law_34))))))))))))))))))))))))))))))))
def M_La_law : ax_M := (10, (some .boolean), tb_La_law, [], false)
def m_La_law : Nat := 125
def tb_Ar_fill : List (Nat × Instr × Nat × Nat) := [(0, .iconst 0, 1, 0), (1, .istore_n 2, 2, 0), (2, .aload_n 0, 3, 0), (3, .arraylength, 4, 0), (4, .istore_n 3, 5, 0), (5, .iload_n 2, 6, 0), (6, .iload_n 3, 7, 0), (7, .if_icmp .ge 13, 10, 20), (10, .aload_n 0, 11, 0), (11, .iload_n 2, 12, 0), (12, .iload_n 1, 13, 0), (13, .iastore, 14, 0), (14, .iinc 2 1, 17, 0), (17, .goto (-12), 20, 5), (20, .return_, 21, 0)]
def M_Ar_fill : ax_M := (11, none, tb_Ar_fill, [], false)
def m_Ar_fill : Nat := 126
def tb_Ma_maxI : List (Nat × Instr × Nat × Nat) := [(0, .iload_n 0, 1, 0), (1, .iload_n 1, 2, 0), (2, .if_icmp .lt 7, 5, 9), (5, .iload_n 0, 6, 0), (6, .goto 4, 9, 10), (9, .iload_n 1, 10, 0), (10, .ireturn, 11, 0)]
def M_Ma_maxI : ax_M := (12, (some .int), tb_Ma_maxI, [], false)
def m_Ma_maxI : Nat := 127
def tb_Ma_maxL : List (Nat × Instr × Nat × Nat) := [(0, .lload_n 0, 1, 0), (1, .lload_n 2, 2, 0), (2, .lcmp, 3, 0), (3, .ifCond .lt 7, 6, 10), (6, .lload_n 0, 7, 0), (7, .goto 4, 10, 11), (10, .lload_n 2, 11, 0), (11, .lreturn, 12, 0)]
def M_Ma_maxL : ax_M := (12, (some .long), tb_Ma_maxL, [], false)
def m_Ma_maxL : Nat := 128
def tb_Ma_absL : List (Nat × Instr × Nat × Nat) := [(0, .lload_n 0, 1, 0), (1, .lconst 0, 2, 0), (2, .lcmp, 3, 0), (3, .ifCond .ge 8, 6, 11), (6, .lload_n 0, 7, 0), (7, .lneg, 8, 0), (8, .goto 4, 11, 12), (11, .lload_n 0, 12, 0), (12, .lreturn, 13, 0)]
def M_Ma_absL : ax_M := (12, (some .long), tb_Ma_absL, [], false)
def m_Ma_absL : Nat := 129
def ax_pr : List ax_M := [M_ML_init, M_ML_unit, M_ML_maker, M_ML_thing, M_ML_at, M_ML_run, M_ML_remark, M_ML_least, M_ML_price, M_ML_share, M_ML_balance, M_ML_quote, M_ML_copper, M_ML_best, M_ML_order, M_ML_history, M_ML_clear, M_ML_keepOffer, M_ML_offerOf, M_ML_gradeOf, M_ML_checkQuantity, M_ML_isNoLayer, M_ML_commonDivisor, M_Bd_init, M_Bd_add, M_Bd_hasNo, M_Bd_move, M_Bd_excess, M_Bd_isMadeBy, M_Bd_part, M_Bd_forget, M_Ce_init, M_Ce_isNoCell, M_Ce_tell, M_Ce_aboveMean, M_Ce_units, M_Ce_forget, M_Gr_init, M_Gr_setLimit, M_Gr_addStep, M_Gr_setDays, M_Gr_excess, M_Gr_priceOf, M_Of_init, M_Of_add, M_Of_gradeAt, M_Of_leastFor, M_Or_init, M_Or_add, M_Or_hasNo, M_Or_part, M_Or_forget, M_Qu_init, M_Qu_add, M_Qu_latest, M_Qu_offerAt, M_Qu_forget, M_Re_init, M_Re_collect, M_Re_thingOf, M_Re_excessOf, M_Re_forget, M_Tx_init, M_Tx_add, M_Tx_forget, M_Tx_place, M_Tx_readNumber, M_Tx_readOffer, M_Tx_readGrade, M_Tx_readLimits, M_Tx_readSteps, M_Tx_readDays, M_Tx_readWhole, M_Tx_passes, M_Tx_next, M_Tx_isDigit, M_Mo_init, M_Mo_empty, M_Mo_thrown, M_Mo_clear, M_Mo_unit, M_Mo_now, M_Mo_expect, M_Mo_isDigit, M_Mo_whole, M_Mo_place, M_Mo_readClass, M_Mo_copyClasses, M_Mo_maker, M_Mo_isLayer, M_Mo_thing, M_Mo_isPlace, M_Mo_at, M_Mo_beyond, M_Mo_makes, M_Mo_leastOf, M_Mo_isMaker, M_Mo_isClass, M_Mo_run, M_Mo_remark, M_Mo_least, M_Mo_isQuantity, M_Mo_priceOf, M_Mo_price, M_Mo_share, M_Mo_best, M_Mo_isCell, M_Mo_copper, M_Mo_balance, M_Mo_quote, M_Mo_order, M_Mo_history, M_La_thing, M_La_at, M_La_run, M_La_remark, M_La_least, M_La_price, M_La_share, M_La_balance, M_La_quote, M_La_copper, M_La_best, M_La_order, M_La_history, M_La_law, M_Ar_fill, M_Ma_maxI, M_Ma_maxL, M_Ma_absL]
def ax_mm : List (MethodName × ByteArray × Nat × Nat × Nat) := [(⟨"MakingLimits", "<init>", "()V"⟩, prog_1_method_1_code, 1, 2, 43), (⟨"MakingLimits", "unit", "(I)Z"⟩, prog_1_method_2_code, 2, 1, 21), (⟨"MakingLimits", "maker", "()I"⟩, prog_1_method_3_code, 4, 5, 112), (⟨"MakingLimits", "thing", "(IJI)I"⟩, prog_1_method_4_code, 5, 6, 82), (⟨"MakingLimits", "at", "(IJJ)Z"⟩, prog_1_method_5_code, 6, 6, 82), (⟨"MakingLimits", "run", "(II)I"⟩, prog_1_method_6_code, 3, 8, 127), (⟨"MakingLimits", "remark", "(II)I"⟩, prog_1_method_7_code, 4, 6, 82), (⟨"MakingLimits", "least", "(I)I"⟩, prog_1_method_8_code, 2, 7, 104), (⟨"MakingLimits", "price", "(IIJ)J"⟩, prog_1_method_9_code, 6, 8, 127), (⟨"MakingLimits", "share", "(JJI)J"⟩, prog_1_method_10_code, 8, 6, 82), (⟨"MakingLimits", "balance", "(III)J"⟩, prog_1_method_11_code, 8, 6, 82), (⟨"MakingLimits", "quote", "(IJ)I"⟩, prog_1_method_12_code, 4, 7, 104), (⟨"MakingLimits", "copper", "(IIJJ)Z"⟩, prog_1_method_13_code, 7, 6, 82), (⟨"MakingLimits", "best", "(J)I"⟩, prog_1_method_14_code, 9, 7, 103), (⟨"MakingLimits", "order", "(IJJ)I"⟩, prog_1_method_15_code, 12, 7, 104), (⟨"MakingLimits", "history", "(II)I"⟩, prog_1_method_16_code, 3, 6, 82), (⟨"MakingLimits", "clear", "()V"⟩, prog_1_method_17_code, 2, 2, 43), (⟨"MakingLimits", "keepOffer", "(ILMakingLimits$Offer;)V"⟩, prog_1_method_18_code, 3, 1, 21), (⟨"MakingLimits", "offerOf", "(I)LMakingLimits$Offer;"⟩, prog_1_method_19_code, 3, 6, 82), (⟨"MakingLimits", "gradeOf", "(II)LMakingLimits$Grade;"⟩, prog_1_method_20_code, 4, 7, 104), (⟨"MakingLimits", "checkQuantity", "(J)V"⟩, prog_1_method_21_code, 2, 6, 82), (⟨"MakingLimits", "isNoLayer", "(I)Z"⟩, prog_1_method_22_code, 1, 0, 0), (⟨"MakingLimits", "commonDivisor", "(JJ)J"⟩, prog_1_method_23_code, 11, 1, 23), (⟨"MakingLimits$Board", "<init>", "()V"⟩, prog_2_method_1_code, 1, 1, 20), (⟨"MakingLimits$Board", "add", "(III)I"⟩, prog_2_method_2_code, 4, 0, 0), (⟨"MakingLimits$Board", "hasNo", "(I)Z"⟩, prog_2_method_3_code, 2, 0, 0), (⟨"MakingLimits$Board", "move", "(III)Z"⟩, prog_2_method_4_code, 5, 1, 21), (⟨"MakingLimits$Board", "excess", "(ILMakingLimits$Grade;)I"⟩, prog_2_method_5_code, 3, 1, 23), (⟨"MakingLimits$Board", "isMadeBy", "(LMakingLimits$Grade;)Z"⟩, prog_2_method_6_code, 3, 2, 45), (⟨"MakingLimits$Board", "part", "(II)I"⟩, prog_2_method_7_code, 3, 1, 21), (⟨"MakingLimits$Board", "forget", "()V"⟩, prog_2_method_8_code, 1, 0, 0), (⟨"MakingLimits$Cells", "<init>", "()V"⟩, prog_3_method_1_code, 1, 1, 23), (⟨"MakingLimits$Cells", "isNoCell", "(I)Z"⟩, prog_3_method_2_code, 1, 0, 0), (⟨"MakingLimits$Cells", "tell", "(IIII)Z"⟩, prog_3_method_3_code, 7, 1, 20), (⟨"MakingLimits$Cells", "aboveMean", "(II)J"⟩, prog_3_method_4_code, 6, 2, 44), (⟨"MakingLimits$Cells", "units", "(II)J"⟩, prog_3_method_5_code, 5, 1, 20), (⟨"MakingLimits$Cells", "forget", "()V"⟩, prog_3_method_6_code, 1, 1, 23), (⟨"MakingLimits$Grade", "<init>", "()V"⟩, prog_4_method_1_code, 1, 1, 20), (⟨"MakingLimits$Grade", "setLimit", "(II)V"⟩, prog_4_method_2_code, 3, 0, 0), (⟨"MakingLimits$Grade", "addStep", "(II)V"⟩, prog_4_method_3_code, 4, 0, 0), (⟨"MakingLimits$Grade", "setDays", "(I)V"⟩, prog_4_method_4_code, 2, 0, 0), (⟨"MakingLimits$Grade", "excess", "(II)I"⟩, prog_4_method_5_code, 4, 0, 0), (⟨"MakingLimits$Grade", "priceOf", "(J)J"⟩, prog_4_method_6_code, 8, 1, 23), (⟨"MakingLimits$Offer", "<init>", "()V"⟩, prog_5_method_1_code, 1, 1, 20), (⟨"MakingLimits$Offer", "add", "(LMakingLimits$Grade;)Z"⟩, prog_5_method_2_code, 2, 0, 0), (⟨"MakingLimits$Offer", "gradeAt", "(I)LMakingLimits$Grade;"⟩, prog_5_method_3_code, 2, 0, 0), (⟨"MakingLimits$Offer", "leastFor", "(LMakingLimits$Board;)I"⟩, prog_5_method_4_code, 4, 3, 67), (⟨"MakingLimits$Orders", "<init>", "()V"⟩, prog_6_method_1_code, 1, 1, 20), (⟨"MakingLimits$Orders", "add", "(IIIIJI)I"⟩, prog_6_method_2_code, 9, 0, 0), (⟨"MakingLimits$Orders", "hasNo", "(I)Z"⟩, prog_6_method_3_code, 2, 0, 0), (⟨"MakingLimits$Orders", "part", "(II)I"⟩, prog_6_method_4_code, 3, 1, 21), (⟨"MakingLimits$Orders", "forget", "()V"⟩, prog_6_method_5_code, 1, 0, 0), (⟨"MakingLimits$Quotes", "<init>", "()V"⟩, prog_7_method_1_code, 1, 1, 20), (⟨"MakingLimits$Quotes", "add", "(ILMakingLimits$Offer;J)I"⟩, prog_7_method_2_code, 5, 0, 0), (⟨"MakingLimits$Quotes", "latest", "(IJ)I"⟩, prog_7_method_3_code, 5, 0, 0), (⟨"MakingLimits$Quotes", "offerAt", "(I)LMakingLimits$Offer;"⟩, prog_7_method_4_code, 2, 0, 0), (⟨"MakingLimits$Quotes", "forget", "()V"⟩, prog_7_method_5_code, 1, 0, 0), (⟨"MakingLimits$Remarks", "<init>", "()V"⟩, prog_8_method_1_code, 1, 1, 20), (⟨"MakingLimits$Remarks", "collect", "(LMakingLimits$Board;LMakingLimits$Grade;)I"⟩, prog_8_method_2_code, 5, 2, 45), (⟨"MakingLimits$Remarks", "thingOf", "(I)I"⟩, prog_8_method_3_code, 2, 0, 0), (⟨"MakingLimits$Remarks", "excessOf", "(I)I"⟩, prog_8_method_4_code, 2, 0, 0), (⟨"MakingLimits$Remarks", "forget", "()V"⟩, prog_8_method_5_code, 1, 0, 0), (⟨"MakingLimits$Text", "<init>", "()V"⟩, prog_9_method_1_code, 1, 1, 20), (⟨"MakingLimits$Text", "add", "(I)Z"⟩, prog_9_method_2_code, 2, 0, 0), (⟨"MakingLimits$Text", "forget", "()V"⟩, prog_9_method_3_code, 1, 0, 0), (⟨"MakingLimits$Text", "place", "()I"⟩, prog_9_method_4_code, 1, 0, 0), (⟨"MakingLimits$Text", "readNumber", "(I)I"⟩, prog_9_method_5_code, 3, 2, 41), (⟨"MakingLimits$Text", "readOffer", "()LMakingLimits$Offer;"⟩, prog_9_method_6_code, 5, 4, 88), (⟨"MakingLimits$Text", "readGrade", "()LMakingLimits$Grade;"⟩, prog_9_method_7_code, 3, 3, 66), (⟨"MakingLimits$Text", "readLimits", "(LMakingLimits$Grade;)Z"⟩, prog_9_method_8_code, 4, 2, 42), (⟨"MakingLimits$Text", "readSteps", "(LMakingLimits$Grade;)Z"⟩, prog_9_method_9_code, 5, 2, 42), (⟨"MakingLimits$Text", "readDays", "(LMakingLimits$Grade;)Z"⟩, prog_9_method_10_code, 3, 2, 42), (⟨"MakingLimits$Text", "readWhole", "()I"⟩, prog_9_method_11_code, 3, 1, 20), (⟨"MakingLimits$Text", "passes", "(C)Z"⟩, prog_9_method_12_code, 2, 1, 20), (⟨"MakingLimits$Text", "next", "()I"⟩, prog_9_method_13_code, 1, 0, 0), (⟨"MakingLimits$Text", "isDigit", "(I)Z"⟩, prog_9_method_14_code, 1, 0, 0), (⟨"MakingLimitsModel", "<init>", "()V"⟩, prog_11_method_1_code, 1, 1, 21), (⟨"MakingLimitsModel", "empty", "()V"⟩, prog_11_method_2_code, 2, 0, 0), (⟨"MakingLimitsModel", "thrown", "()I"⟩, prog_11_method_3_code, 1, 0, 0), (⟨"MakingLimitsModel", "clear", "()V"⟩, prog_11_method_4_code, 1, 1, 21), (⟨"MakingLimitsModel", "unit", "(I)Z"⟩, prog_11_method_5_code, 2, 0, 0), (⟨"MakingLimitsModel", "now", "()I"⟩, prog_11_method_6_code, 1, 0, 0), (⟨"MakingLimitsModel", "expect", "(I)V"⟩, prog_11_method_7_code, 2, 1, 20), (⟨"MakingLimitsModel", "isDigit", "()Z"⟩, prog_11_method_8_code, 1, 1, 20), (⟨"MakingLimitsModel", "whole", "()J"⟩, prog_11_method_9_code, 4, 2, 40), (⟨"MakingLimitsModel", "place", "(II)I"⟩, prog_11_method_10_code, 2, 0, 0), (⟨"MakingLimitsModel", "readClass", "(I)V"⟩, prog_11_method_11_code, 13, 3, 63), (⟨"MakingLimitsModel", "copyClasses", "(II)V"⟩, prog_11_method_12_code, 4, 1, 21), (⟨"MakingLimitsModel", "maker", "()I"⟩, prog_11_method_13_code, 3, 4, 95), (⟨"MakingLimitsModel", "isLayer", "(I)Z"⟩, prog_11_method_14_code, 1, 0, 0), (⟨"MakingLimitsModel", "thing", "(IJI)I"⟩, prog_11_method_15_code, 6, 1, 20), (⟨"MakingLimitsModel", "isPlace", "(J)Z"⟩, prog_11_method_16_code, 2, 0, 0), (⟨"MakingLimitsModel", "at", "(IJJ)Z"⟩, prog_11_method_17_code, 6, 1, 21), (⟨"MakingLimitsModel", "beyond", "(III)J"⟩, prog_11_method_18_code, 6, 1, 21), (⟨"MakingLimitsModel", "makes", "(II)Z"⟩, prog_11_method_19_code, 5, 2, 46), (⟨"MakingLimitsModel", "leastOf", "(I)I"⟩, prog_11_method_20_code, 3, 3, 70), (⟨"MakingLimitsModel", "isMaker", "(I)Z"⟩, prog_11_method_21_code, 2, 0, 0), (⟨"MakingLimitsModel", "isClass", "(II)Z"⟩, prog_11_method_22_code, 3, 1, 21), (⟨"MakingLimitsModel", "run", "(II)I"⟩, prog_11_method_23_code, 4, 2, 46), (⟨"MakingLimitsModel", "remark", "(II)I"⟩, prog_11_method_24_code, 4, 0, 0), (⟨"MakingLimitsModel", "least", "(I)I"⟩, prog_11_method_25_code, 2, 4, 92), (⟨"MakingLimitsModel", "isQuantity", "(J)Z"⟩, prog_11_method_26_code, 2, 0, 0), (⟨"MakingLimitsModel", "priceOf", "(IIJ)J"⟩, prog_11_method_27_code, 8, 1, 21), (⟨"MakingLimitsModel", "price", "(IIJ)J"⟩, prog_11_method_28_code, 5, 2, 48), (⟨"MakingLimitsModel", "share", "(JJI)J"⟩, prog_11_method_29_code, 6, 1, 21), (⟨"MakingLimitsModel", "best", "(J)I"⟩, prog_11_method_30_code, 8, 4, 92), (⟨"MakingLimitsModel", "isCell", "(II)Z"⟩, prog_11_method_31_code, 2, 1, 20), (⟨"MakingLimitsModel", "copper", "(IIJJ)Z"⟩, prog_11_method_32_code, 10, 2, 41), (⟨"MakingLimitsModel", "balance", "(III)J"⟩, prog_11_method_33_code, 15, 2, 41), (⟨"MakingLimitsModel", "quote", "(IJ)I"⟩, prog_11_method_34_code, 4, 2, 44), (⟨"MakingLimitsModel", "order", "(IJJ)I"⟩, prog_11_method_35_code, 12, 4, 92), (⟨"MakingLimitsModel", "history", "(II)I"⟩, prog_11_method_36_code, 3, 0, 0), (⟨"MakingLimitsLaw", "thing", "(LMakingLimits;IJI[J)I"⟩, method_3_code, 7, 7, 106), (⟨"MakingLimitsLaw", "at", "(LMakingLimits;IJJ[J)I"⟩, method_4_code, 8, 7, 107), (⟨"MakingLimitsLaw", "run", "(LMakingLimits;II[J)I"⟩, method_5_code, 5, 9, 149), (⟨"MakingLimitsLaw", "remark", "(LMakingLimits;II[J)I"⟩, method_6_code, 5, 7, 105), (⟨"MakingLimitsLaw", "least", "(LMakingLimits;I[J)I"⟩, method_7_code, 4, 8, 125), (⟨"MakingLimitsLaw", "price", "(LMakingLimits;IIJ[J)I"⟩, method_8_code, 7, 9, 152), (⟨"MakingLimitsLaw", "share", "(LMakingLimits;JJI[J)I"⟩, method_9_code, 8, 7, 109), (⟨"MakingLimitsLaw", "balance", "(LMakingLimits;III[J)I"⟩, method_10_code, 6, 7, 109), (⟨"MakingLimitsLaw", "quote", "(LMakingLimits;IJ[J)I"⟩, method_11_code, 6, 8, 127), (⟨"MakingLimitsLaw", "copper", "(LMakingLimits;IIJJ[J)I"⟩, method_12_code, 9, 7, 108), (⟨"MakingLimitsLaw", "best", "(LMakingLimits;J[J)I"⟩, method_13_code, 5, 8, 131), (⟨"MakingLimitsLaw", "order", "(LMakingLimits;IJJ[J)I"⟩, method_14_code, 8, 8, 135), (⟨"MakingLimitsLaw", "history", "(LMakingLimits;II[J)I"⟩, method_15_code, 5, 7, 104), (⟨"MakingLimitsLaw", "law", "([I)Z"⟩, code, 8, 10, 178), (⟨"java/util/Arrays", "fill", "([II)V"⟩, prog_19_method_103_code, 4, 0, 0), (⟨"java/lang/Math", "max", "(II)I"⟩, prog_15_method_65_code, 2, 0, 0), (⟨"java/lang/Math", "max", "(JJ)J"⟩, prog_15_method_66_code, 4, 0, 0), (⟨"java/lang/Math", "abs", "(J)J"⟩, prog_15_method_61_code, 2, 0, 0)]
/-- a method's class, for its receiver -/
def ax_rc (mi : Nat) : Nat := match ax_pr[mi]? with
  | some M => M.1
  | none => 0
def ax_nl (mi : Nat) : Nat := match ax_mm[mi]? with
  | some q => q.2.2.1
  | none => 0
end
section
/-- words that stay true while the tables only grow warmer -/
def ax_gw : Jvm.Cond → Bool
  | .fieldLinkNest _ _ _ _ _ _ => true
  | .methodLinkNest _ _ _ _ => true
  | .arrayOver (.object _) => true
  | .stringRef _ _ _ => true
  | .castable _ _ => true
  | w => goodWord w
theorem ax_gw_keep {w : Jvm.Cond} (h : ax_gw w = true) {args a' : Array Value} {s U : State} (hW : s.WarmedH U.vm) (hb : w.before args s = true) : w.before a' U = true := by
  unfold ax_gw at h
  split at h
  · exact va_Nw.use rfl (va_Nw.warmF hW (va_Nw.of rfl hb))
  · exact va_Nw.use rfl (va_Nw.warmM hW (va_Nw.of rfl hb))
  · exact va_AO.use (va_AO.moved hW.alike (va_AO.of hb))
  · have h1 := Cond.stringRef_warmed (args := args) hW hb
    simp only [Cond.before, Cond.holds, Cond.value, State.names, State.poolOf?, State.resolvedAt?] at h1 ⊢
    exact h1
  · exact va_Nw.use rfl (va_Nw.warmC hW (va_Nw.of rfl hb))
  · exact word_at hW (good_of_word h) hb
end
section
/-! the tables of links are the Statement's -/
abbrev ax_w (w : Jvm.Cond) : Prop := w ∈ lw_tbl ∧ ax_gw w = true
theorem ax_tI_ok : ∀ e ∈ ax_tI, ax_w (.constant (ax_cn e.1.1) e.1.2 e.2) := by decide +kernel
theorem ax_tL_ok : ∀ e ∈ ax_tL, ax_w (.constantLong (ax_cn e.1.1) e.1.2 e.2) := by decide +kernel
theorem ax_cls_all : ∀ q ∈ classes, ∀ w ∈ u_ws q.1 q.2.1 q.2.2, ax_w w := by decide +kernel
theorem ax_cls_ok (ci : Nat) (q : vw_C) (h : classes[ci]? = some q) : ∀ w ∈ u_ws q.1 q.2.1 q.2.2, ax_w w := ax_cls_all q (List.mem_of_getElem? h)
def ax_okF (e : (Nat × Nat) × (Nat × Nat)) : Bool := match classes[e.2.1]? with
  | some q => decide (e.2.2 < q.2.2) && (decide (ax_w (.fieldLink (ax_cn e.1.1) e.1.2 (q.2.1 e.2.2).1 (q.2.1 e.2.2).2.1 (q.2.1 e.2.2).2.2.1)) || (decide (¬ e.1.1 = e.2.1) && decide (ax_w (.fieldLinkNest (ax_cn e.1.1) e.1.2 (q.2.1 e.2.2).1 (q.2.1 e.2.2).2.1 (q.2.1 e.2.2).2.2.1 "MakingLimits"))))
  | none => false
theorem ax_tF_all : ax_tF.all ax_okF = true := by decide +kernel
theorem ax_tF_ok (e : (Nat × Nat) × (Nat × Nat)) (he : e ∈ ax_tF) : ∃ C T N, classes[e.2.1]? = some (C, T, N) ∧ e.2.2 < N ∧ (ax_w (.fieldLink (ax_cn e.1.1) e.1.2 (T e.2.2).1 (T e.2.2).2.1 (T e.2.2).2.2.1) ∨ ∃ host, ax_w (.fieldLinkNest (ax_cn e.1.1) e.1.2 (T e.2.2).1 (T e.2.2).2.1 (T e.2.2).2.2.1 host)) := by
  have h := List.all_eq_true.mp ax_tF_all e he
  unfold ax_okF at h
  split at h
  · rename_i q hq
    simp only [Bool.and_eq_true, Bool.or_eq_true, decide_eq_true_eq] at h
    exact ⟨q.1, q.2.1, q.2.2, hq, h.1, h.2.imp (fun z => z) (fun z => ⟨_, z.2⟩)⟩
  · cases h
theorem ax_tFown_ok (e : (Nat × Nat) × (Nat × Nat)) (he : e ∈ ax_tF) (ho : e.1.1 = e.2.1) {q : vw_C} (hq0 : classes[e.2.1]? = some q) : ax_w (.fieldLink (ax_cn e.1.1) e.1.2 (q.2.1 e.2.2).1 (q.2.1 e.2.2).2.1 (q.2.1 e.2.2).2.2.1) := by
  have h := List.all_eq_true.mp ax_tF_all e he
  unfold ax_okF at h
  split at h
  · rename_i q' hq
    cases hq0.symm.trans hq
    simp only [Bool.and_eq_true, Bool.or_eq_true, decide_eq_true_eq] at h
    rcases h.2 with h | h
    · exact h
    · exact absurd ho h.1
  · cases h
/-- a fact of every field of every class -/
def ax_each (f : Nat → vw_C → Nat → Bool) : Bool := (List.range 10).all (fun ci => match classes[ci]? with
  | some q => (List.range q.2.2).all (fun k => f ci q k)
  | none => false)
theorem ax_each_at {f : Nat → vw_C → Nat → Bool} (h : ax_each f = true) {ci : Nat} {q : vw_C} (hq : classes[ci]? = some q) {k : Nat} (hk : k < q.2.2) : f ci q k = true := by
  have hl : ci < 10 := (List.getElem?_eq_some_iff.mp hq).1
  have h1 := List.all_eq_true.mp h ci (List.mem_range.mpr hl)
  simp only [hq] at h1
  exact List.all_eq_true.mp h1 k (List.mem_range.mpr hk)
theorem ax_ty_all : ax_each (fun ci q k => decide (parseFieldDescriptor (q.2.1 k).2.2.1 = some (ax_ty ci k))) = true := by decide +kernel
theorem ax_ty_ok (ci : Nat) (q : vw_C) (hq : classes[ci]? = some q) : ∀ k, k < q.2.2 → parseFieldDescriptor (q.2.1 k).2.2.1 = some (ax_ty ci k) := fun _ hk => of_decide_eq_true (ax_each_at ax_ty_all hq hk)
theorem ax_nm_all : ax_each (fun _ q a => (List.range q.2.2).all (fun b => decide (a ≠ b → (q.2.1 a).2.1 ≠ (q.2.1 b).2.1))) = true := by decide +kernel
theorem ax_nm_ok (ci : Nat) (q : vw_C) (hq : classes[ci]? = some q) : ∀ a, a < q.2.2 → ∀ b, b < q.2.2 → a ≠ b → (q.2.1 a).2.1 ≠ (q.2.1 b).2.1 := fun _ ha b hb => of_decide_eq_true (List.all_eq_true.mp (ax_each_at ax_nm_all hq ha) b (List.mem_range.mpr hb))
theorem ax_fin_all : ax_each (fun ci q k => decide (ax_fin ci k = (q.2.1 k).2.2.2)) = true := by decide +kernel
theorem ax_fin_ok (ci : Nat) (q : vw_C) (hq : classes[ci]? = some q) (k : Nat) (hk : k < q.2.2) : ax_fin ci k = (q.2.1 k).2.2.2 := of_decide_eq_true (ax_each_at ax_fin_all hq hk)
theorem ax_own_all : ax_each (fun ci q k => decide ((q.2.1 k).1 = ax_cn ci)) = true := by decide +kernel
theorem ax_own_ok (ci : Nat) (q : vw_C) (hq : classes[ci]? = some q) (k : Nat) (hk : k < q.2.2) : (q.2.1 k).1 = ax_cn ci := of_decide_eq_true (ax_each_at ax_own_all hq hk)
theorem ax_dfl_all : ax_each (fun ci q k => decide (defaultValue (ax_ty ci k) = vp_V (ax_dfl ci) k) && decide ((ax_dfl ci).length = q.2.2)) = true := by decide +kernel
theorem ax_cn_all : (List.range 10).all (fun ci => match classes[ci]? with | some q => decide (q.1 = ax_cn ci) && decide (ax_w (.instantiable q.1 q.2.2)) && decide (ax_w (.initialized q.1)) && decide ((ax_dfl ci).length = q.2.2) | none => false) = true := by decide +kernel
theorem ax_cn_ok (ci : Nat) (q : vw_C) (hq : classes[ci]? = some q) : q.1 = ax_cn ci ∧ ax_w (.instantiable q.1 q.2.2) ∧ ax_w (.initialized q.1) ∧ (ax_dfl ci).length = q.2.2 := by
  have hl : ci < 10 := (List.getElem?_eq_some_iff.mp hq).1
  have h := List.all_eq_true.mp ax_cn_all ci (List.mem_range.mpr hl)
  simp only [hq, Bool.and_eq_true, decide_eq_true_eq] at h
  exact ⟨h.1.1.1, h.1.1.2, h.1.2, h.2⟩
theorem ax_tN_ok : ∀ e ∈ ax_tN, ax_w (.classLink (ax_cn e.1.1) e.1.2 (ax_cn e.2)) ∧ e.2 < 10 := by decide +kernel
theorem ax_tR_ok : ∀ e ∈ ax_tR, (e.2 = 3 ∧ ax_w (.classLink (ax_cn e.1.1) e.1.2 "MakingLimits$Offer")) ∨ (e.2 = 4 ∧ ax_w (.classLink (ax_cn e.1.1) e.1.2 "MakingLimits$Grade")) := by decide +kernel
theorem ax_ovO : ax_w (.arrayOver (.object "MakingLimits$Offer")) := by decide +kernel
theorem ax_ovG : ax_w (.arrayOver (.object "MakingLimits$Grade")) := by decide +kernel
theorem ax_arC : ax_w (.arrayClass (newarray.typeOf .char)) := by decide +kernel
theorem ax_arI : ax_w (.arrayClass (newarray.typeOf .int)) := by decide +kernel
theorem ax_arJ : ax_w (.arrayClass (newarray.typeOf .long)) := by decide +kernel
theorem ax_tO_ok : ∀ e ∈ ax_tO, ax_w (.methodLink (ax_cn e.1) e.2 Lib.objectInit) := by decide +kernel
theorem ax_oi_ok : ax_w (.instanceMethod Lib.objectInit) ∧ ax_w (.code Lib.objectInit ⟨#[0xb1]⟩ 1 none) := by decide +kernel
end
section
def ax_sto1 (i : Nat) (v : Value) (lv : ax_L) : ax_L := (i, v) :: lv.filter (fun q => !(q.1 == i) && !(q.1 + 1 == i && q.2.category == 2))
def ax_sto2 (i : Nat) (v : Value) (lv : ax_L) : ax_L := (i, v) :: lv.filter (fun q => !(q.1 == i) && (!(q.1 == i + 1) && !(q.1 + 1 == i && q.2.category == 2)))
def ax_isI : Value → Bool
  | .int _ => true
  | _ => false
def ax_isL : Value → Bool
  | .long _ => true
  | _ => false
def ax_isA : Value → Bool
  | .ref _ => true
  | .null => true
  | _ => false
abbrev ax_S : Type := Nat × ax_L × List Value × ax_H
def ax_load (ok : Value → Bool) (k nx : Nat) (lv : ax_L) (st : List Value) (h : ax_H) : Option ax_S := match lv.lookup k with
  | some v => if ok v = true then some (nx, lv, v :: st, h) else none
  | none => none
def ax_store1 (ok : Value → Bool) (k nx : Nat) (lv : ax_L) (st : List Value) (h : ax_H) : Option ax_S := match st with
  | v :: st => if ok v = true then some (nx, ax_sto1 k v lv, st, h) else none
  | _ => none
def ax_store2 (k nx : Nat) (lv : ax_L) (st : List Value) (h : ax_H) : Option ax_S := match st with
  | .long x :: st => some (nx, ax_sto2 k (.long x) lv, st, h)
  | _ => none
def ax_iinc (k : Nat) (n : Int) (nx : Nat) (lv : ax_L) (st : List Value) (h : ax_H) : Option ax_S := match lv.lookup k with
  | some (.int x) => some (nx, ax_sto1 k (.int (x + Int32.ofInt n)) lv, st, h)
  | _ => none
def ax_ii (f : Int32 → Int32 → Int32) (nx : Nat) (lv : ax_L) (st : List Value) (h : ax_H) : Option ax_S := match st with
  | .int y :: .int x :: st => some (nx, lv, .int (f x y) :: st, h)
  | _ => none
def ax_ll (f : Int64 → Int64 → Value) (nx : Nat) (lv : ax_L) (st : List Value) (h : ax_H) : Option ax_S := match st with
  | .long y :: .long x :: st => some (nx, lv, f x y :: st, h)
  | _ => none
def ax_lshl (nx : Nat) (lv : ax_L) (st : List Value) (h : ax_H) : Option ax_S := match st with
  | .int y :: .long x :: st => some (nx, lv, .long (x <<< (y.toInt64 &&& 63)) :: st, h)
  | _ => none
def ax_i1 (f : Int32 → Value) (nx : Nat) (lv : ax_L) (st : List Value) (h : ax_H) : Option ax_S := match st with
  | .int x :: st => some (nx, lv, f x :: st, h)
  | _ => none
def ax_l1 (f : Int64 → Value) (nx : Nat) (lv : ax_L) (st : List Value) (h : ax_H) : Option ax_S := match st with
  | .long x :: st => some (nx, lv, f x :: st, h)
  | _ => none
def ax_dup (nx : Nat) (lv : ax_L) (st : List Value) (h : ax_H) : Option ax_S := match st with
  | v :: st => if v.category = 1 then some (nx, lv, v :: v :: st, h) else none
  | _ => none
/-- an instruction that asks nothing of the cells, and goes one way -/
def ax_s (i : Instr) (nx tg : Nat) (lv : ax_L) (st : List Value) (h : ax_H) : Option ax_S := match i with
  | .aconst_null => some (nx, lv, .null :: st, h)
  | .iconst n => some (nx, lv, .int (Int32.ofInt n) :: st, h)
  | .bipush n => some (nx, lv, .int (Int8.ofInt n).toInt32 :: st, h)
  | .sipush n => some (nx, lv, .int (Int16.ofInt n).toInt32 :: st, h)
  | .lconst n => some (nx, lv, .long (Int64.ofNat (n : Nat)) :: st, h)
  | .iload k => ax_load ax_isI k nx lv st h
  | .iload_n k => ax_load ax_isI k nx lv st h
  | .lload k => ax_load ax_isL k nx lv st h
  | .lload_n k => ax_load ax_isL k nx lv st h
  | .aload k => ax_load ax_isA k nx lv st h
  | .aload_n k => ax_load ax_isA k nx lv st h
  | .istore k => ax_store1 ax_isI k nx lv st h
  | .istore_n k => ax_store1 ax_isI k nx lv st h
  | .astore k => ax_store1 ax_isA k nx lv st h
  | .astore_n k => ax_store1 ax_isA k nx lv st h
  | .lstore k => ax_store2 k nx lv st h
  | .lstore_n k => ax_store2 k nx lv st h
  | .iinc k n => ax_iinc k n nx lv st h
  | .iadd => ax_ii (fun x y => x + y) nx lv st h
  | .isub => ax_ii (fun x y => x - y) nx lv st h
  | .imul => ax_ii (fun x y => x * y) nx lv st h
  | .iand => ax_ii (fun x y => x &&& y) nx lv st h
  | .ladd => ax_ll (fun x y => .long (x + y)) nx lv st h
  | .lsub => ax_ll (fun x y => .long (x - y)) nx lv st h
  | .lmul => ax_ll (fun x y => .long (x * y)) nx lv st h
  | .land => ax_ll (fun x y => .long (x &&& y)) nx lv st h
  | .lor => ax_ll (fun x y => .long (x ||| y)) nx lv st h
  | .lcmp => ax_ll (fun x y => .int (lg_cmp x y)) nx lv st h
  | .lshl => ax_lshl nx lv st h
  | .i2l => ax_i1 (fun x => .long x.toInt64) nx lv st h
  | .i2c => ax_i1 (fun x => .int (x.toUInt32 % 65536).toInt32) nx lv st h
  | .ineg => ax_i1 (fun x => .int (-x)) nx lv st h
  | .lneg => ax_l1 (fun x => .long (-x)) nx lv st h
  | .l2i => ax_l1 (fun x => .int x.toInt32) nx lv st h
  | .dup => ax_dup nx lv st h
  | .goto _ => some (tg, lv, st, h)
  | _ => none
def ax_cnd (c : ClassFile.Cond) (x y : Int32) : Prop := match c with
  | .eq => x = y
  | .ne => ¬ x = y
  | .lt => x < y
  | .ge => y ≤ x
  | .gt => y < x
  | .le => x ≤ y
def ax_to (pc : Nat) (off : Int) : Nat := ((pc : Int) + off).toNat
def ax_key (M : ax_M) (ix : Nat) : Nat × Nat := (M.1, ix)
/-- where a switch goes -/
def ax_tsw (pc : Nat) (d lo hi : Int) (offs : Array Int) (x : Int32) : Option Nat :=
  if x.toInt < lo ∨ hi < x.toInt then some (ax_to pc d) else (offs[(x.toInt - lo).toNat]?).map (ax_to pc)
/-- which handler (from, to, handler, place of the class caught in the pool) of a method of class own takes a throw of E at pc -/
def ax_hand (own : Nat) : List (Nat × Nat × Nat × Nat) → Nat → Nat → Option Nat
  | [], _, _ => none
  | (a, b, t, k) :: l, pc, E => if a ≤ pc ∧ pc < b ∧ ax_tC.lookup (own, k) = some E then some t else ax_hand own l pc E
def ax_wsum (st : List Value) : Nat := (st.map fun v => v.category).sum
/-- a new array's contents, by its kind: 0 int, 1 long, 2 char, 3 and 4 references -/
def ax_blank (k : Nat) : (Nat → Int32) ⊕ (Nat → Int64) ⊕ (Nat → UInt32) ⊕ (Nat → UInt64) ⊕ (Nat → Option Nat) :=
  if k = 1 then .inr (.inl (fun _ => 0)) else if 3 ≤ k then .inr (.inr (.inr (.inr (fun _ => none)))) else .inl (fun _ => 0)
/-- the rest of a call, where the callee's run is known -/
def ax_call (C : Nat → List Value → ax_H → ax_R → Prop) (M : ax_M) (ix pc nx : Nat) (lv : ax_L) (st : List Value) (h : ax_H) (r : ax_R) (K : Nat → ax_L → List Value → ax_H → Prop) : Prop :=
  ∃ mi n, ax_tM.lookup (ax_key M ix) = some (mi, n) ∧ n ≤ st.length ∧ ax_wsum (st.drop n) ≤ 8 ∧
    ((∃ v h1, C mi (st.take n).reverse h (.inl v, h1) ∧ K nx lv (v.toList ++ st.drop n) h1) ∨
     (∃ E h1, C mi (st.take n).reverse h (.inr E, h1) ∧
       ((∃ t, ax_hand M.1 M.2.2.2.1 pc E = some t ∧ K t lv [.ref (h1.1.length - 1)] h1) ∨ (ax_hand M.1 M.2.2.2.1 pc E = none ∧ r = (.inr E, h1)))))
/-- the object that is called is one of the method's class -/
def ax_recv (M : ax_M) (ix : Nat) (st : List Value) (h : ax_H) : Prop := ∃ mi n a as fs, ax_tM.lookup (ax_key M ix) = some (mi, n) ∧ (st.take n).reverse = .ref a :: as ∧ h.1[a]? = some (some (.inr (ax_rc mi, fs)))
/-- an instruction that looks into the cells, goes two ways, calls or ends -/
def ax_b (C : Nat → List Value → ax_H → ax_R → Prop) (M : ax_M) (i : Instr) (pc nx tg : Nat) (lv : ax_L) (st : List Value) (h : ax_H) (r : ax_R) (K : Nat → ax_L → List Value → ax_H → Prop) : Prop := match i with
  | .ldc ix => ∃ v, ax_tI.lookup (ax_key M ix) = some v ∧ K nx lv (.int v :: st) h
  | .ldc2_w ix => ∃ v, ax_tL.lookup (ax_key M ix) = some v ∧ K nx lv (.long v :: st) h
  | .idiv => ∃ x y st', st = .int y :: .int x :: st' ∧ ¬ y = 0 ∧ K nx lv (.int (x / y) :: st') h
  | .ldiv => ∃ x y st', st = .long y :: .long x :: st' ∧ ¬ y = 0 ∧ K nx lv (.long (x / y) :: st') h
  | .lrem => ∃ x y st', st = .long y :: .long x :: st' ∧ ¬ y = 0 ∧ K nx lv (.long (x - x / y * y) :: st') h
  | .if_icmp c _ => ∃ x y st', st = .int y :: .int x :: st' ∧ (ax_cnd c x y → K tg lv st' h) ∧ (¬ ax_cnd c x y → K nx lv st' h)
  | .ifCond c _ => ∃ x st', st = .int x :: st' ∧ (ax_cnd c x 0 → K tg lv st' h) ∧ (¬ ax_cnd c x 0 → K nx lv st' h)
  | .ifnull _ => ∃ v st', st = v :: st' ∧ ((v = .null ∧ K tg lv st' h) ∨ ((∃ a, v = .ref a) ∧ K nx lv st' h))
  | .ifnonnull _ => ∃ v st', st = v :: st' ∧ ((v = .null ∧ K nx lv st' h) ∨ ((∃ a, v = .ref a) ∧ K tg lv st' h))
  | .tableswitch d lo hi offs => ∃ x st' t, st = .int x :: st' ∧ ax_tsw pc d lo hi offs x = some t ∧ K t lv st' h
  | .lookupswitch d ps => ∃ x st', st = .int x :: st' ∧ K (ax_to pc (Op.lookupswitch.offset ps.toList d x.toInt)) lv st' h
  | .getfield ix => ∃ a st' ci k fs v, st = .ref a :: st' ∧ ax_tF.lookup (ax_key M ix) = some (ci, k) ∧ h.1[a]? = some (some (.inr (ci, fs))) ∧ fs[k]? = some v ∧ K nx lv (v :: st') h
  | .putfield ix => ∃ a v st' ci k fs, st = v :: .ref a :: st' ∧ ax_tF.lookup (ax_key M ix) = some (ci, k) ∧ h.1[a]? = some (some (.inr (ci, fs))) ∧ k < fs.length ∧ (ax_fin ci k = false ∨ (M.2.2.2.2 = true ∧ M.1 = ci)) ∧ narrow (ax_ty ci k) v = v ∧ fits (ax_ty ci k) v = true ∧
      K nx lv st' (h.1.set a (some (.inr (ci, fs.set k v))), h.2)
  | .iaload => ∃ a i st' k n f, st = .int i :: .ref a :: st' ∧ h.1[a]? = some (some (.inl (k, n, .inl f))) ∧ (k = 0 ∨ k = 9) ∧ vp_in i n ∧ K nx lv (.int (f i.toNatClampNeg) :: st') h
  | .caload => ∃ a i st' n f, st = .int i :: .ref a :: st' ∧ h.1[a]? = some (some (.inl (2, n, .inl f))) ∧ vp_in i n ∧ K nx lv (.int (f i.toNatClampNeg) :: st') h
  | .laload => ∃ a i st' n f, st = .int i :: .ref a :: st' ∧ h.1[a]? = some (some (.inl (1, n, .inr (.inl f)))) ∧ vp_in i n ∧ K nx lv (.long (f i.toNatClampNeg) :: st') h
  | .aaload => ∃ a i st' k n f, st = .int i :: .ref a :: st' ∧ h.1[a]? = some (some (.inl (k, n, .inr (.inr (.inr (.inr f)))))) ∧ (k = 3 ∨ k = 4) ∧ vp_in i n ∧ K nx lv (va_rf (f i.toNatClampNeg) :: st') h
  | .iastore => ∃ a i x st' n f, st = .int x :: .int i :: .ref a :: st' ∧ h.1[a]? = some (some (.inl (0, n, .inl f))) ∧ vp_in i n ∧ K nx lv st' (h.1.set a (some (.inl (0, n, .inl (upd f i.toNatClampNeg x)))), h.2)
  | .castore => ∃ a i x st' n f, st = .int x :: .int i :: .ref a :: st' ∧ h.1[a]? = some (some (.inl (2, n, .inl f))) ∧ vp_in i n ∧ K nx lv st' (h.1.set a (some (.inl (2, n, .inl (upd f i.toNatClampNeg (vp_nar .char x))))), h.2)
  | .lastore => ∃ a i x st' n f, st = .long x :: .int i :: .ref a :: st' ∧ h.1[a]? = some (some (.inl (1, n, .inr (.inl f)))) ∧ vp_in i n ∧ K nx lv st' (h.1.set a (some (.inl (1, n, .inr (.inl (vp_updL f i.toNatClampNeg x))))), h.2)
  | .aastore => ∃ a i o st' k n f, st = va_rf o :: .int i :: .ref a :: st' ∧ h.1[a]? = some (some (.inl (k, n, .inr (.inr (.inr (.inr f)))))) ∧ (k = 3 ∨ k = 4) ∧ vp_in i n ∧ (∀ v, o = some v → ∃ fs, h.1[v]? = some (some (.inr (ax_cmp k, fs)))) ∧
      K nx lv st' (h.1.set a (some (.inl (k, n, .inr (.inr (.inr (.inr (va_up f i.toNatClampNeg o))))))), h.2)
  | .arraylength => ∃ a st' k n z, st = .ref a :: st' ∧ h.1[a]? = some (some (.inl (k, n, z))) ∧ (k < 5 ∨ (k = 9 ∧ a = 0)) ∧ K nx lv (.int (nI n) :: st') h
  | .newarray t => ∃ n st' k, st = .int n :: st' ∧ ax_ak t = some k ∧ ¬ n < 0 ∧ n.toNatClampNeg ≤ 1000000 ∧ K nx lv (.ref h.1.length :: st') (h.1 ++ [some (.inl (k, n.toNatClampNeg, ax_blank k))], h.2 + n.toNatClampNeg)
  | .anewarray ix => ∃ n st' k, st = .int n :: st' ∧ ax_tR.lookup (ax_key M ix) = some k ∧ ¬ n < 0 ∧ n.toNatClampNeg ≤ 1000000 ∧ K nx lv (.ref h.1.length :: st') (h.1 ++ [some (.inl (k, n.toNatClampNeg, ax_blank k))], h.2 + n.toNatClampNeg)
  | .new ix => (∃ ci, ax_tN.lookup (ax_key M ix) = some ci ∧ K nx lv (.ref h.1.length :: st) (h.1 ++ [some (.inr (ci, ax_dfl ci))], h.2 + (ax_dfl ci).length)) ∨
      (∃ E ik is, ax_tX.lookup (ax_key M ix) = some (E, ik) ∧ st = [] ∧ M.2.2.2.1 = [] ∧ M.2.2.1.lookup nx = some (.dup, nx + 1, 0) ∧ M.2.2.1.lookup (nx + 1) = some (.ldc is, nx + 3, 0) ∧ ax_key M is ∈ ax_tS ∧ M.2.2.1.lookup (nx + 3) = some (.invokespecial ik, nx + 6, 0) ∧ M.2.2.1.lookup (nx + 6) = some (.athrow, nx + 7, 0) ∧ r = (.inr E, (h.1 ++ [none], h.2 + 6)))
  | .invokestatic ix => ax_call C M ix pc nx lv st h r K
  | .invokevirtual ix => ax_recv M ix st h ∧ ax_call C M ix pc nx lv st h r K
  | .invokespecial ix => (ax_key M ix ∈ ax_tO ∧ (∃ a st', st = .ref a :: st' ∧ ax_wsum st' ≤ 8 ∧ K nx lv st' h)) ∨ ax_call C M ix pc nx lv st h r K
  | .ireturn => ∃ x rt, st = [.int x] ∧ M.2.1 = some rt ∧ narrow rt (.int x) = .int x ∧ r = (.inl (some (.int x)), h)
  | .lreturn => ∃ x, st = [.long x] ∧ M.2.1 = some .long ∧ r = (.inl (some (.long x)), h)
  | .areturn => ∃ v n, st = [v] ∧ M.2.1 = some (.object n) ∧ ax_isA v = true ∧ r = (.inl (some v), h)
  | .return_ => st = [] ∧ M.2.1 = none ∧ r = (.inl none, h)
  | _ => False
/-- one instruction: what K must say of the next places for the method to go on and end as r says -/
def ax_step (C : Nat → List Value → ax_H → ax_R → Prop) (M : ax_M) (pc : Nat) (lv : ax_L) (st : List Value) (h : ax_H) (r : ax_R) (K : Nat → ax_L → List Value → ax_H → Prop) : Prop :=
  ∃ i nx tg, M.2.2.1.lookup pc = some (i, nx, tg) ∧ ((∃ s : ax_S, ax_s i nx tg lv st h = some s ∧ K s.1 s.2.1 s.2.2.1 s.2.2.2) ∨ ax_b C M i pc nx tg lv st h r K)
/-- from here the method ends as r says: the least such relation -/
def ax_go (C : Nat → List Value → ax_H → ax_R → Prop) (M : ax_M) (r : ax_R) (pc : Nat) (lv : ax_L) (st : List Value) (h : ax_H) : Prop :=
  ∀ P : Nat → ax_L → List Value → ax_H → Prop, (∀ pc lv st h, ax_step C M pc lv st h r P → P pc lv st h) → P pc lv st h
/-- method number mi, called with these values over these cells, ends as r says -/
def ax_run (mi : Nat) (as : List Value) (h : ax_H) (r : ax_R) : Prop :=
  ∀ P : Nat → List Value → ax_H → ax_R → Prop, (∀ mi as h r, (∃ M, ax_pr[mi]? = some M ∧ ax_go P M r 0 (lv_args 0 as) [] h) → P mi as h r) → P mi as h r
end
section
section AxMono
variable {C C' : Nat → List Value → ax_H → ax_R → Prop} {M : ax_M} {r : ax_R} {K K' : Nat → ax_L → List Value → ax_H → Prop}
theorem ax_call_mono (hC : ∀ mi as h r, C mi as h r → C' mi as h r) (hK : ∀ pc lv st h, K pc lv st h → K' pc lv st h) {ix pc nx : Nat} {lv : ax_L} {st : List Value} {h : ax_H} (hb : ax_call C M ix pc nx lv st h r K) : ax_call C' M ix pc nx lv st h r K' := by
  obtain ⟨mi, n, h1, h2, h3, h4⟩ := hb
  refine ⟨mi, n, h1, h2, h3, ?_⟩
  rcases h4 with ⟨v, g, c, k⟩ | ⟨E, g, c, k⟩
  · exact Or.inl ⟨v, g, hC _ _ _ _ c, hK _ _ _ _ k⟩
  · refine Or.inr ⟨E, g, hC _ _ _ _ c, ?_⟩
    rcases k with ⟨t, k1, k2⟩ | k
    · exact Or.inl ⟨t, k1, hK _ _ _ _ k2⟩
    · exact Or.inr k
theorem ax_b_mono (hC : ∀ mi as h r, C mi as h r → C' mi as h r) (hK : ∀ pc lv st h, K pc lv st h → K' pc lv st h) {i : Instr} {pc nx tg : Nat} {lv : ax_L} {st : List Value} {h : ax_H} (hb : ax_b C M i pc nx tg lv st h r K) : ax_b C' M i pc nx tg lv st h r K' := by
  cases i with
  | ldc ix => obtain ⟨v, a, k⟩ := hb; exact ⟨v, a, hK _ _ _ _ k⟩
  | ldc2_w ix => obtain ⟨v, a, k⟩ := hb; exact ⟨v, a, hK _ _ _ _ k⟩
  | idiv => obtain ⟨x, y, s, a, b, k⟩ := hb; exact ⟨x, y, s, a, b, hK _ _ _ _ k⟩
  | ldiv => obtain ⟨x, y, s, a, b, k⟩ := hb; exact ⟨x, y, s, a, b, hK _ _ _ _ k⟩
  | lrem => obtain ⟨x, y, s, a, b, k⟩ := hb; exact ⟨x, y, s, a, b, hK _ _ _ _ k⟩
  | if_icmp c o => obtain ⟨x, y, s, a, k1, k2⟩ := hb; exact ⟨x, y, s, a, fun q => hK _ _ _ _ (k1 q), fun q => hK _ _ _ _ (k2 q)⟩
  | ifCond c o => obtain ⟨x, s, a, k1, k2⟩ := hb; exact ⟨x, s, a, fun q => hK _ _ _ _ (k1 q), fun q => hK _ _ _ _ (k2 q)⟩
  | ifnull o => obtain ⟨v, s, a, k⟩ := hb; exact ⟨v, s, a, k.imp (fun q => ⟨q.1, hK _ _ _ _ q.2⟩) (fun q => ⟨q.1, hK _ _ _ _ q.2⟩)⟩
  | ifnonnull o => obtain ⟨v, s, a, k⟩ := hb; exact ⟨v, s, a, k.imp (fun q => ⟨q.1, hK _ _ _ _ q.2⟩) (fun q => ⟨q.1, hK _ _ _ _ q.2⟩)⟩
  | tableswitch d lo hi offs => obtain ⟨x, s, t, a, b, k⟩ := hb; exact ⟨x, s, t, a, b, hK _ _ _ _ k⟩
  | lookupswitch d ps => obtain ⟨x, s, a, k⟩ := hb; exact ⟨x, s, a, hK _ _ _ _ k⟩
  | getfield ix => obtain ⟨a, s, ci, k, fs, v, a1, a2, a3, a4, q⟩ := hb; exact ⟨a, s, ci, k, fs, v, a1, a2, a3, a4, hK _ _ _ _ q⟩
  | putfield ix => obtain ⟨a, v, s, ci, k, fs, a1, a2, a3, a4, a5, a6, a7, q⟩ := hb; exact ⟨a, v, s, ci, k, fs, a1, a2, a3, a4, a5, a6, a7, hK _ _ _ _ q⟩
  | iaload => obtain ⟨a, j, s, k, n, f, a1, a2, a3, a4, q⟩ := hb; exact ⟨a, j, s, k, n, f, a1, a2, a3, a4, hK _ _ _ _ q⟩
  | caload => obtain ⟨a, j, s, n, f, a1, a2, a3, q⟩ := hb; exact ⟨a, j, s, n, f, a1, a2, a3, hK _ _ _ _ q⟩
  | laload => obtain ⟨a, j, s, n, f, a1, a2, a3, q⟩ := hb; exact ⟨a, j, s, n, f, a1, a2, a3, hK _ _ _ _ q⟩
  | aaload => obtain ⟨a, j, s, k, n, f, a1, a2, a3, a4, q⟩ := hb; exact ⟨a, j, s, k, n, f, a1, a2, a3, a4, hK _ _ _ _ q⟩
  | iastore => obtain ⟨a, j, x, s, n, f, a1, a2, a3, q⟩ := hb; exact ⟨a, j, x, s, n, f, a1, a2, a3, hK _ _ _ _ q⟩
  | castore => obtain ⟨a, j, x, s, n, f, a1, a2, a3, q⟩ := hb; exact ⟨a, j, x, s, n, f, a1, a2, a3, hK _ _ _ _ q⟩
  | lastore => obtain ⟨a, j, x, s, n, f, a1, a2, a3, q⟩ := hb; exact ⟨a, j, x, s, n, f, a1, a2, a3, hK _ _ _ _ q⟩
  | aastore => obtain ⟨a, j, o, s, k, n, f, a1, a2, a3, a4, a5, q⟩ := hb; exact ⟨a, j, o, s, k, n, f, a1, a2, a3, a4, a5, hK _ _ _ _ q⟩
  | arraylength => obtain ⟨a, s, k, n, z, a1, a2, a3, q⟩ := hb; exact ⟨a, s, k, n, z, a1, a2, a3, hK _ _ _ _ q⟩
  | newarray t => obtain ⟨n, s, k, a1, a2, a3, a4, q⟩ := hb; exact ⟨n, s, k, a1, a2, a3, a4, hK _ _ _ _ q⟩
  | anewarray ix => obtain ⟨n, s, k, a1, a2, a3, a4, q⟩ := hb; exact ⟨n, s, k, a1, a2, a3, a4, hK _ _ _ _ q⟩
  | new ix =>
    rcases hb with ⟨ci, a, q⟩ | hb
    · exact Or.inl ⟨ci, a, hK _ _ _ _ q⟩
    · exact Or.inr hb
  | invokestatic ix => exact ax_call_mono hC hK hb
  | invokevirtual ix => exact ⟨hb.1, ax_call_mono hC hK hb.2⟩
  | invokespecial ix =>
    rcases hb with ⟨a1, a, s, a2, a3, q⟩ | hb
    · exact Or.inl ⟨a1, a, s, a2, a3, hK _ _ _ _ q⟩
    · exact Or.inr (ax_call_mono hC hK hb)
  | ireturn => exact hb
  | lreturn => exact hb
  | areturn => exact hb
  | return_ => exact hb
  | _ => exact hb
theorem ax_step_mono (hC : ∀ mi as h r, C mi as h r → C' mi as h r) (hK : ∀ pc lv st h, K pc lv st h → K' pc lv st h) {pc : Nat} {lv : ax_L} {st : List Value} {h : ax_H} (hb : ax_step C M pc lv st h r K) : ax_step C' M pc lv st h r K' := by
  obtain ⟨i, nx, tg, hd, q⟩ := hb
  exact ⟨i, nx, tg, hd, q.imp (fun ⟨s, a, k⟩ => ⟨s, a, hK _ _ _ _ k⟩) (ax_b_mono hC hK)⟩
theorem ax_go_mono (hC : ∀ mi as h r, C mi as h r → C' mi as h r) {pc : Nat} {lv : ax_L} {st : List Value} {h : ax_H} (hg : ax_go C M r pc lv st h) : ax_go C' M r pc lv st h :=
  fun P hP => hg P (fun pc lv st h q => hP pc lv st h (ax_step_mono hC (fun _ _ _ _ k => k) q))
theorem ax_go_st {pc : Nat} {lv : ax_L} {st : List Value} {h : ax_H} (q : ax_step C M pc lv st h r (ax_go C M r)) : ax_go C M r pc lv st h :=
  fun P hP => hP _ _ _ _ (ax_step_mono (fun _ _ _ _ k => k) (fun _ _ _ _ k => k P hP) q)
end AxMono
/-- a method's run out of its body's -/
theorem ax_run_of {mi : Nat} {as : List Value} {h : ax_H} {r : ax_R} (M : ax_M) (hM : ax_pr[mi]? = some M) (hg : ax_go ax_run M r 0 (lv_args 0 as) [] h) : ax_run mi as h r :=
  fun P hP => hP _ _ _ _ ⟨M, hM, ax_go_mono (fun _ _ _ _ q => q P hP) hg⟩
section AxRows
variable {C : Nat → List Value → ax_H → ax_R → Prop} {M : ax_M} {r : ax_R} {pc nx tg : Nat} {lv lv' : ax_L} {st st' : List Value} {h h' : ax_H}
/-- straight on -/
theorem gs {i : Instr} {pc' : Nat} (hd : M.2.2.1.lookup pc = some (i, nx, tg)) (hs : ax_s i nx tg lv st h = some (pc', lv', st', h')) (k : ax_go C M r pc' lv' st' h') : ax_go C M r pc lv st h := ax_go_st ⟨i, nx, tg, hd, Or.inl ⟨_, hs, k⟩⟩
theorem gb {i : Instr} (hd : M.2.2.1.lookup pc = some (i, nx, tg)) (hb : ax_b C M i pc nx tg lv st h r (ax_go C M r)) : ax_go C M r pc lv st h := ax_go_st ⟨i, nx, tg, hd, Or.inr hb⟩
theorem g_ldc {ix : Nat} {v : Int32} (hd : M.2.2.1.lookup pc = some (.ldc ix, nx, tg)) (hv : ax_tI.lookup (ax_key M ix) = some v) (k : ax_go C M r nx lv (.int v :: st) h) : ax_go C M r pc lv st h := gb hd ⟨v, hv, k⟩
theorem g_ldc2 {ix : Nat} {v : Int64} (hd : M.2.2.1.lookup pc = some (.ldc2_w ix, nx, tg)) (hv : ax_tL.lookup (ax_key M ix) = some v) (k : ax_go C M r nx lv (.long v :: st) h) : ax_go C M r pc lv st h := gb hd ⟨v, hv, k⟩
theorem g_idiv {x y : Int32} (hd : M.2.2.1.lookup pc = some (.idiv, nx, tg)) (hy : ¬ y = 0) (k : ax_go C M r nx lv (.int (x / y) :: st) h) : ax_go C M r pc lv (.int y :: .int x :: st) h := gb hd ⟨x, y, st, rfl, hy, k⟩
theorem g_ldiv {x y : Int64} (hd : M.2.2.1.lookup pc = some (.ldiv, nx, tg)) (hy : ¬ y = 0) (k : ax_go C M r nx lv (.long (x / y) :: st) h) : ax_go C M r pc lv (.long y :: .long x :: st) h := gb hd ⟨x, y, st, rfl, hy, k⟩
theorem g_lrem {x y : Int64} (hd : M.2.2.1.lookup pc = some (.lrem, nx, tg)) (hy : ¬ y = 0) (k : ax_go C M r nx lv (.long (x - x / y * y) :: st) h) : ax_go C M r pc lv (.long y :: .long x :: st) h := gb hd ⟨x, y, st, rfl, hy, k⟩
/-- two ways -/
theorem g_if2 {c : ClassFile.Cond} {o : Int} {x y : Int32} (hd : M.2.2.1.lookup pc = some (.if_icmp c o, nx, tg)) (k1 : ax_cnd c x y → ax_go C M r tg lv st h) (k2 : ¬ ax_cnd c x y → ax_go C M r nx lv st h) : ax_go C M r pc lv (.int y :: .int x :: st) h := gb hd ⟨x, y, st, rfl, k1, k2⟩
theorem g_if1 {c : ClassFile.Cond} {o : Int} {x : Int32} (hd : M.2.2.1.lookup pc = some (.ifCond c o, nx, tg)) (k1 : ax_cnd c x 0 → ax_go C M r tg lv st h) (k2 : ¬ ax_cnd c x 0 → ax_go C M r nx lv st h) : ax_go C M r pc lv (.int x :: st) h := gb hd ⟨x, st, rfl, k1, k2⟩
theorem g_nul {o : Int} (hd : M.2.2.1.lookup pc = some (.ifnull o, nx, tg)) (k : ax_go C M r tg lv st h) : ax_go C M r pc lv (.null :: st) h := gb hd ⟨.null, st, rfl, Or.inl ⟨rfl, k⟩⟩
theorem g_nulR {o : Int} {a : Nat} (hd : M.2.2.1.lookup pc = some (.ifnull o, nx, tg)) (k : ax_go C M r nx lv st h) : ax_go C M r pc lv (.ref a :: st) h := gb hd ⟨.ref a, st, rfl, Or.inr ⟨⟨a, rfl⟩, k⟩⟩
theorem g_nnl {o : Int} (hd : M.2.2.1.lookup pc = some (.ifnonnull o, nx, tg)) (k : ax_go C M r nx lv st h) : ax_go C M r pc lv (.null :: st) h := gb hd ⟨.null, st, rfl, Or.inl ⟨rfl, k⟩⟩
theorem g_nnlR {o : Int} {a : Nat} (hd : M.2.2.1.lookup pc = some (.ifnonnull o, nx, tg)) (k : ax_go C M r tg lv st h) : ax_go C M r pc lv (.ref a :: st) h := gb hd ⟨.ref a, st, rfl, Or.inr ⟨⟨a, rfl⟩, k⟩⟩
theorem g_tsw {d lo hi : Int} {offs : Array Int} {x : Int32} {t : Nat} (hd : M.2.2.1.lookup pc = some (.tableswitch d lo hi offs, nx, tg)) (ht : ax_tsw pc d lo hi offs x = some t) (k : ax_go C M r t lv st h) : ax_go C M r pc lv (.int x :: st) h := gb hd ⟨x, st, t, rfl, ht, k⟩
theorem g_lsw {d : Int} {ps : Array (Int × Int)} {x : Int32} {t : Nat} (hd : M.2.2.1.lookup pc = some (.lookupswitch d ps, nx, tg)) (ht : ax_to pc (Op.lookupswitch.offset ps.toList d x.toInt) = t) (k : ax_go C M r t lv st h) : ax_go C M r pc lv (.int x :: st) h := gb hd ⟨x, st, rfl, by rw [ht]; exact k⟩
/-- fields -/
theorem g_get {ix a ci j : Nat} {fs : List Value} {v : Value} (hd : M.2.2.1.lookup pc = some (.getfield ix, nx, tg)) (hf : ax_tF.lookup (ax_key M ix) = some (ci, j)) (hc : h.1[a]? = some (some (.inr (ci, fs)))) (hv : fs[j]? = some v) (k : ax_go C M r nx lv (v :: st) h) : ax_go C M r pc lv (.ref a :: st) h := gb hd ⟨a, st, ci, j, fs, v, rfl, hf, hc, hv, k⟩
theorem g_put {ix a ci j : Nat} {fs : List Value} {v : Value} (hd : M.2.2.1.lookup pc = some (.putfield ix, nx, tg)) (hf : ax_tF.lookup (ax_key M ix) = some (ci, j)) (hc : h.1[a]? = some (some (.inr (ci, fs)))) (hl : j < fs.length) (hw : ax_fin ci j = false ∨ (M.2.2.2.2 = true ∧ M.1 = ci)) (hn : narrow (ax_ty ci j) v = v) (ht : fits (ax_ty ci j) v = true)
    (k : ax_go C M r nx lv st (h.1.set a (some (.inr (ci, fs.set j v))), h.2)) : ax_go C M r pc lv (v :: .ref a :: st) h := gb hd ⟨a, v, st, ci, j, fs, rfl, hf, hc, hl, hw, hn, ht, k⟩
/-- arrays -/
theorem g_iald {a n : Nat} {i : Int32} {f : Nat → Int32} (hd : M.2.2.1.lookup pc = some (.iaload, nx, tg)) (hc : h.1[a]? = some (some (.inl (0, n, .inl f)))) (hi : vp_in i n) (k : ax_go C M r nx lv (.int (f i.toNatClampNeg) :: st) h) : ax_go C M r pc lv (.int i :: .ref a :: st) h := gb hd ⟨a, i, st, 0, n, f, rfl, hc, Or.inl rfl, hi, k⟩
theorem g_sald {a n : Nat} {i : Int32} {f : Nat → Int32} (hd : M.2.2.1.lookup pc = some (.iaload, nx, tg)) (hc : h.1[a]? = some (some (.inl (9, n, .inl f)))) (hi : vp_in i n) (k : ax_go C M r nx lv (.int (f i.toNatClampNeg) :: st) h) : ax_go C M r pc lv (.int i :: .ref a :: st) h := gb hd ⟨a, i, st, 9, n, f, rfl, hc, Or.inr rfl, hi, k⟩
theorem g_cald {a n : Nat} {i : Int32} {f : Nat → Int32} (hd : M.2.2.1.lookup pc = some (.caload, nx, tg)) (hc : h.1[a]? = some (some (.inl (2, n, .inl f)))) (hi : vp_in i n) (k : ax_go C M r nx lv (.int (f i.toNatClampNeg) :: st) h) : ax_go C M r pc lv (.int i :: .ref a :: st) h := gb hd ⟨a, i, st, n, f, rfl, hc, hi, k⟩
theorem g_lald {a n : Nat} {i : Int32} {f : Nat → Int64} (hd : M.2.2.1.lookup pc = some (.laload, nx, tg)) (hc : h.1[a]? = some (some (.inl (1, n, .inr (.inl f))))) (hi : vp_in i n) (k : ax_go C M r nx lv (.long (f i.toNatClampNeg) :: st) h) : ax_go C M r pc lv (.int i :: .ref a :: st) h := gb hd ⟨a, i, st, n, f, rfl, hc, hi, k⟩
theorem g_aald {a n q : Nat} {i : Int32} {f : Nat → Option Nat} (hd : M.2.2.1.lookup pc = some (.aaload, nx, tg)) (hc : h.1[a]? = some (some (.inl (q, n, .inr (.inr (.inr (.inr f))))))) (hq : q = 3 ∨ q = 4) (hi : vp_in i n) (k : ax_go C M r nx lv (va_rf (f i.toNatClampNeg) :: st) h) : ax_go C M r pc lv (.int i :: .ref a :: st) h := gb hd ⟨a, i, st, q, n, f, rfl, hc, hq, hi, k⟩
theorem g_iast {a n : Nat} {i x : Int32} {f : Nat → Int32} (hd : M.2.2.1.lookup pc = some (.iastore, nx, tg)) (hc : h.1[a]? = some (some (.inl (0, n, .inl f)))) (hi : vp_in i n) (k : ax_go C M r nx lv st (h.1.set a (some (.inl (0, n, .inl (upd f i.toNatClampNeg x)))), h.2)) : ax_go C M r pc lv (.int x :: .int i :: .ref a :: st) h := gb hd ⟨a, i, x, st, n, f, rfl, hc, hi, k⟩
theorem g_cast {a n : Nat} {i x : Int32} {f : Nat → Int32} (hd : M.2.2.1.lookup pc = some (.castore, nx, tg)) (hc : h.1[a]? = some (some (.inl (2, n, .inl f)))) (hi : vp_in i n) (k : ax_go C M r nx lv st (h.1.set a (some (.inl (2, n, .inl (upd f i.toNatClampNeg (vp_nar .char x))))), h.2)) : ax_go C M r pc lv (.int x :: .int i :: .ref a :: st) h := gb hd ⟨a, i, x, st, n, f, rfl, hc, hi, k⟩
theorem g_last {a n : Nat} {i : Int32} {x : Int64} {f : Nat → Int64} (hd : M.2.2.1.lookup pc = some (.lastore, nx, tg)) (hc : h.1[a]? = some (some (.inl (1, n, .inr (.inl f))))) (hi : vp_in i n) (k : ax_go C M r nx lv st (h.1.set a (some (.inl (1, n, .inr (.inl (vp_updL f i.toNatClampNeg x))))), h.2)) : ax_go C M r pc lv (.long x :: .int i :: .ref a :: st) h := gb hd ⟨a, i, x, st, n, f, rfl, hc, hi, k⟩
theorem g_aast {a n q v : Nat} {i : Int32} {f : Nat → Option Nat} {fs : List Value} (hd : M.2.2.1.lookup pc = some (.aastore, nx, tg)) (hc : h.1[a]? = some (some (.inl (q, n, .inr (.inr (.inr (.inr f))))))) (hq : q = 3 ∨ q = 4) (hi : vp_in i n) (hv : h.1[v]? = some (some (.inr (ax_cmp q, fs))))
    (k : ax_go C M r nx lv st (h.1.set a (some (.inl (q, n, .inr (.inr (.inr (.inr (va_up f i.toNatClampNeg (some v)))))))), h.2)) : ax_go C M r pc lv (.ref v :: .int i :: .ref a :: st) h := gb hd ⟨a, i, some v, st, q, n, f, rfl, hc, hq, hi, fun w e => by cases e; exact ⟨fs, hv⟩, k⟩
theorem g_aastN {a n q : Nat} {i : Int32} {f : Nat → Option Nat} (hd : M.2.2.1.lookup pc = some (.aastore, nx, tg)) (hc : h.1[a]? = some (some (.inl (q, n, .inr (.inr (.inr (.inr f))))))) (hq : q = 3 ∨ q = 4) (hi : vp_in i n)
    (k : ax_go C M r nx lv st (h.1.set a (some (.inl (q, n, .inr (.inr (.inr (.inr (va_up f i.toNatClampNeg none))))))), h.2)) : ax_go C M r pc lv (.null :: .int i :: .ref a :: st) h := gb hd ⟨a, i, none, st, q, n, f, rfl, hc, hq, hi, (fun w e => by cases e), k⟩
theorem g_alen {a q n : Nat} {z : (Nat → Int32) ⊕ (Nat → Int64) ⊕ (Nat → UInt32) ⊕ (Nat → UInt64) ⊕ (Nat → Option Nat)} (hd : M.2.2.1.lookup pc = some (.arraylength, nx, tg)) (hc : h.1[a]? = some (some (.inl (q, n, z)))) (hq : q < 5 ∨ (q = 9 ∧ a = 0)) (k : ax_go C M r nx lv (.int (nI n) :: st) h) : ax_go C M r pc lv (.ref a :: st) h := gb hd ⟨a, st, q, n, z, rfl, hc, hq, k⟩
theorem g_newa {t : ArrayType} {n : Int32} {q : Nat} (hd : M.2.2.1.lookup pc = some (.newarray t, nx, tg)) (ht : ax_ak t = some q) (hn : ¬ n < 0) (hm : n.toNatClampNeg ≤ 1000000) (k : ax_go C M r nx lv (.ref h.1.length :: st) (h.1 ++ [some (.inl (q, n.toNatClampNeg, ax_blank q))], h.2 + n.toNatClampNeg)) : ax_go C M r pc lv (.int n :: st) h := gb hd ⟨n, st, q, rfl, ht, hn, hm, k⟩
theorem g_newq {ix : Nat} {n : Int32} {q : Nat} (hd : M.2.2.1.lookup pc = some (.anewarray ix, nx, tg)) (ht : ax_tR.lookup (ax_key M ix) = some q) (hn : ¬ n < 0) (hm : n.toNatClampNeg ≤ 1000000) (k : ax_go C M r nx lv (.ref h.1.length :: st) (h.1 ++ [some (.inl (q, n.toNatClampNeg, ax_blank q))], h.2 + n.toNatClampNeg)) : ax_go C M r pc lv (.int n :: st) h := gb hd ⟨n, st, q, rfl, ht, hn, hm, k⟩
theorem g_new {ix ci : Nat} (hd : M.2.2.1.lookup pc = some (.new ix, nx, tg)) (hn : ax_tN.lookup (ax_key M ix) = some ci) (k : ax_go C M r nx lv (.ref h.1.length :: st) (h.1 ++ [some (.inr (ci, ax_dfl ci))], h.2 + (ax_dfl ci).length)) : ax_go C M r pc lv st h := gb hd (Or.inl ⟨ci, hn, k⟩)
theorem g_thr {ix E ik is : Nat} (hd : M.2.2.1.lookup pc = some (.new ix, nx, tg)) (hx : ax_tX.lookup (ax_key M ix) = some (E, ik)) (hh : M.2.2.2.1 = []) (h1 : M.2.2.1.lookup nx = some (.dup, nx + 1, 0)) (h2 : M.2.2.1.lookup (nx + 1) = some (.ldc is, nx + 3, 0)) (h3 : ax_key M is ∈ ax_tS) (h4 : M.2.2.1.lookup (nx + 3) = some (.invokespecial ik, nx + 6, 0)) (h5 : M.2.2.1.lookup (nx + 6) = some (.athrow, nx + 7, 0)) (hr : r = (.inr E, (h.1 ++ [none], h.2 + 6))) : ax_go C M r pc lv [] h := gb hd (Or.inr ⟨E, ik, is, hx, rfl, hh, h1, h2, h3, h4, h5, hr⟩)
/-- calls: n values, the receiver among them -/
theorem g_cs {ix mi n : Nat} {v : Option Value} {h1 : ax_H} (hd : M.2.2.1.lookup pc = some (.invokestatic ix, nx, tg)) (hm : ax_tM.lookup (ax_key M ix) = some (mi, n)) (hc : C mi (st.take n).reverse h (.inl v, h1)) (hn : n ≤ st.length) (hw : ax_wsum (st.drop n) ≤ 8) (k : ax_go C M r nx lv (v.toList ++ st.drop n) h1) : ax_go C M r pc lv st h := gb hd ⟨mi, n, hm, hn, hw, Or.inl ⟨v, h1, hc, k⟩⟩
theorem g_cv {ix mi n a : Nat} {as fs : List Value} {v : Option Value} {h1 : ax_H} (hd : M.2.2.1.lookup pc = some (.invokevirtual ix, nx, tg)) (hm : ax_tM.lookup (ax_key M ix) = some (mi, n)) (ha : (st.take n).reverse = .ref a :: as) (ho : h.1[a]? = some (some (.inr (ax_rc mi, fs)))) (hc : C mi (st.take n).reverse h (.inl v, h1)) (hn : n ≤ st.length) (hw : ax_wsum (st.drop n) ≤ 8) (k : ax_go C M r nx lv (v.toList ++ st.drop n) h1) : ax_go C M r pc lv st h := gb hd ⟨⟨mi, n, a, as, fs, hm, ha, ho⟩, mi, n, hm, hn, hw, Or.inl ⟨v, h1, hc, k⟩⟩
theorem g_ci {ix mi n : Nat} {v : Option Value} {h1 : ax_H} (hd : M.2.2.1.lookup pc = some (.invokespecial ix, nx, tg)) (hm : ax_tM.lookup (ax_key M ix) = some (mi, n)) (hc : C mi (st.take n).reverse h (.inl v, h1)) (hn : n ≤ st.length) (hw : ax_wsum (st.drop n) ≤ 8) (k : ax_go C M r nx lv (v.toList ++ st.drop n) h1) : ax_go C M r pc lv st h := gb hd (Or.inr ⟨mi, n, hm, hn, hw, Or.inl ⟨v, h1, hc, k⟩⟩)
theorem g_oi {ix a : Nat} (hd : M.2.2.1.lookup pc = some (.invokespecial ix, nx, tg)) (ho : ax_key M ix ∈ ax_tO) (hw : ax_wsum st ≤ 8) (k : ax_go C M r nx lv st h) : ax_go C M r pc lv (.ref a :: st) h := gb hd (Or.inl ⟨ho, a, st, rfl, hw, k⟩)
/-- a call that throws, and nobody here takes it -/
theorem g_cvx {ix mi n E a : Nat} {as fs : List Value} {h1 : ax_H} (hd : M.2.2.1.lookup pc = some (.invokevirtual ix, nx, tg)) (hm : ax_tM.lookup (ax_key M ix) = some (mi, n)) (ha : (st.take n).reverse = .ref a :: as) (ho : h.1[a]? = some (some (.inr (ax_rc mi, fs)))) (hc : C mi (st.take n).reverse h (.inr E, h1)) (hn : n ≤ st.length) (hw : ax_wsum (st.drop n) ≤ 8) (hh : ax_hand M.1 M.2.2.2.1 pc E = none) (hr : r = (.inr E, h1)) : ax_go C M r pc lv st h := gb hd ⟨⟨mi, n, a, as, fs, hm, ha, ho⟩, mi, n, hm, hn, hw, Or.inr ⟨E, h1, hc, Or.inr ⟨hh, hr⟩⟩⟩
theorem g_csx {ix mi n E : Nat} {h1 : ax_H} (hd : M.2.2.1.lookup pc = some (.invokestatic ix, nx, tg)) (hm : ax_tM.lookup (ax_key M ix) = some (mi, n)) (hc : C mi (st.take n).reverse h (.inr E, h1)) (hn : n ≤ st.length) (hw : ax_wsum (st.drop n) ≤ 8) (hh : ax_hand M.1 M.2.2.2.1 pc E = none) (hr : r = (.inr E, h1)) : ax_go C M r pc lv st h := gb hd ⟨mi, n, hm, hn, hw, Or.inr ⟨E, h1, hc, Or.inr ⟨hh, hr⟩⟩⟩
/-- a call that throws, taken here -/
theorem g_cvc {ix mi n E t a : Nat} {as fs : List Value} {h1 : ax_H} (hd : M.2.2.1.lookup pc = some (.invokevirtual ix, nx, tg)) (hm : ax_tM.lookup (ax_key M ix) = some (mi, n)) (ha : (st.take n).reverse = .ref a :: as) (ho : h.1[a]? = some (some (.inr (ax_rc mi, fs)))) (hc : C mi (st.take n).reverse h (.inr E, h1)) (hn : n ≤ st.length) (hw : ax_wsum (st.drop n) ≤ 8) (hh : ax_hand M.1 M.2.2.2.1 pc E = some t) (k : ax_go C M r t lv [.ref (h1.1.length - 1)] h1) : ax_go C M r pc lv st h := gb hd ⟨⟨mi, n, a, as, fs, hm, ha, ho⟩, mi, n, hm, hn, hw, Or.inr ⟨E, h1, hc, Or.inl ⟨t, hh, k⟩⟩⟩
/-- ends -/
theorem g_iret {x : Int32} {rt : FieldType} (hd : M.2.2.1.lookup pc = some (.ireturn, nx, tg)) (ht : M.2.1 = some rt) (hx : narrow rt (.int x) = .int x) (hr : r = (.inl (some (.int x)), h)) : ax_go C M r pc lv [.int x] h := gb hd ⟨x, rt, rfl, ht, hx, hr⟩
theorem g_lret {x : Int64} (hd : M.2.2.1.lookup pc = some (.lreturn, nx, tg)) (ht : M.2.1 = some .long) (hr : r = (.inl (some (.long x)), h)) : ax_go C M r pc lv [.long x] h := gb hd ⟨x, rfl, ht, hr⟩
theorem g_aret {v : Value} {n : String} (hd : M.2.2.1.lookup pc = some (.areturn, nx, tg)) (ht : M.2.1 = some (.object n)) (hv : ax_isA v = true) (hr : r = (.inl (some v), h)) : ax_go C M r pc lv [v] h := gb hd ⟨v, n, rfl, ht, hv, hr⟩
theorem g_vret (hd : M.2.2.1.lookup pc = some (.return_, nx, tg)) (ht : M.2.1 = none) (hr : r = (.inl none, h)) : ax_go C M r pc lv [] h := gb hd ⟨rfl, ht, hr⟩
end AxRows
end
section
/-! WHERE THE ABSTRACT CELLS LIE: cell 0 is the script, at b; cell i + 1 at base + i. -/
def ax_ad (b base : Nat) : Nat → Nat
  | 0 => b
  | i + 1 => base + i
def ax_v (b base : Nat) : Value → Value
  | .ref a => .ref (ax_ad b base a)
  | v => v
def ax_lm (b base : Nat) (lv : ax_L) : ax_L := lv.map (fun q => (q.1, ax_v b base q.2))
def ax_z (b base : Nat) (z : (Nat → Int32) ⊕ (Nat → Int64) ⊕ (Nat → UInt32) ⊕ (Nat → UInt64) ⊕ (Nat → Option Nat)) : (Nat → Int32) ⊕ (Nat → Int64) ⊕ (Nat → UInt32) ⊕ (Nat → UInt64) ⊕ (Nat → Option Nat) := match z with
  | .inl f => .inl f
  | .inr (.inl f) => .inr (.inl f)
  | .inr (.inr (.inl f)) => .inr (.inr (.inl f))
  | .inr (.inr (.inr (.inl f))) => .inr (.inr (.inr (.inl f)))
  | .inr (.inr (.inr (.inr f))) => .inr (.inr (.inr (.inr (fun j => (f j).map (ax_ad b base)))))
def ax_e (b base : Nat) (dA : Nat → ClassId) : ax_C → va_E
  | .inl (k, n, z) => .inl (dA k, n, ax_z b base z)
  | .inr (ci, fs) => .inr (ci, fs.map (ax_v b base))
theorem ax_ad_inj {b base i j : Nat} (hb : b < base) (h : ax_ad b base i = ax_ad b base j) : i = j := by
  cases i <;> cases j <;> simp [ax_ad] at h <;> omega
theorem ax_v_cat (b base : Nat) (v : Value) : (ax_v b base v).category = v.category := by cases v <;> rfl
theorem ax_lm_in {b base : Nat} {lv : ax_L} {k : Nat} {v : Value} (h : lv.lookup k = some v) : (k, ax_v b base v) ∈ ax_lm b base lv := by
  induction lv with
  | nil => simp at h
  | cons q lv ih =>
    obtain ⟨i, w⟩ := q
    by_cases hk : k = i
    · subst hk
      simp at h
      subst h
      exact List.mem_cons_self
    · rw [List.lookup_cons] at h
      rw [show (k == i) = false by simpa using hk] at h
      exact List.mem_cons_of_mem _ (ih h)
theorem ax_lm_get {b base nL k : Nat} {ls : Array Slot} {lv : ax_L} {v : Value} (hl : lv_has ls nL (ax_lm b base lv)) (h : lv.lookup k = some v) : ls[k]? = some (.val (ax_v b base v)) := hl.2.2 _ (ax_lm_in h)
theorem ax_lm_sto1 (b base i : Nat) (v : Value) (lv : ax_L) : ax_lm b base (ax_sto1 i v lv) = (i, ax_v b base v) :: (ax_lm b base lv).filter (fun q => !(q.1 == i) && !(q.1 + 1 == i && q.2.category == 2)) := by
  simp only [ax_sto1, ax_lm, List.map_cons, List.filter_map]
  congr 3
  funext q
  simp [Function.comp, ax_v_cat]
theorem ax_lm_sto2 (b base i : Nat) (v : Value) (lv : ax_L) : ax_lm b base (ax_sto2 i v lv) = (i, ax_v b base v) :: (ax_lm b base lv).filter (fun q => !(q.1 == i) && (!(q.1 == i + 1) && !(q.1 + 1 == i && q.2.category == 2))) := by
  simp only [ax_sto2, ax_lm, List.map_cons, List.filter_map]
  congr 3
  funext q
  simp [Function.comp, ax_v_cat]
theorem ax_lm_args (b base : Nat) (as : List Value) : ∀ i, ax_lm b base (lv_args i as) = lv_args i (as.map (ax_v b base)) := by
  induction as with
  | nil => intro i; rfl
  | cons v vs ih =>
    intro i
    show (i, ax_v b base v) :: ax_lm b base (lv_args _ vs) = (i, ax_v b base v) :: lv_args _ (vs.map (ax_v b base))
    rw [ih, ax_v_cat]
/-! what the tables of a method's instructions must say -/
def ax_len : Instr → Nat
  | .bipush _ => 2
  | .iload _ => 2
  | .lload _ => 2
  | .aload _ => 2
  | .istore _ => 2
  | .lstore _ => 2
  | .astore _ => 2
  | .ldc _ => 2
  | .newarray _ => 2
  | .sipush _ => 3
  | .iinc _ _ => 3
  | .ldc2_w _ => 3
  | .if_icmp _ _ => 3
  | .ifCond _ _ => 3
  | .ifnull _ => 3
  | .ifnonnull _ => 3
  | .goto _ => 3
  | .getfield _ => 3
  | .putfield _ => 3
  | .invokevirtual _ => 3
  | .invokespecial _ => 3
  | .invokestatic _ => 3
  | .new _ => 3
  | .anewarray _ => 3
  | _ => 1
def ax_sw : Instr → Bool
  | .tableswitch _ _ _ _ => true
  | .lookupswitch _ _ => true
  | _ => false
def ax_off : Instr → Option Int
  | .goto o => some o
  | .if_icmp _ o => some o
  | .ifCond _ o => some o
  | .ifnull o => some o
  | .ifnonnull o => some o
  | _ => none
/-- the last local that an instruction writes -/
def ax_top : Instr → Nat
  | .istore k => k
  | .istore_n k => k
  | .astore k => k
  | .astore_n k => k
  | .lstore k => k + 1
  | .lstore_n k => k + 1
  | .iinc k _ => k
  | _ => 0
def ax_swok (pc : Nat) : Instr → Bool
  | .tableswitch d _ _ offs => decide (0 ≤ (pc : Int) + d) && offs.toList.all (fun o => decide (0 ≤ (pc : Int) + o))
  | .lookupswitch d ps => decide (0 ≤ (pc : Int) + d) && ps.toList.all (fun q => decide (0 ≤ (pc : Int) + q.2)) && (ps.toList.zip (ps.toList.drop 1)).all (fun (a, next) => a.1 < next.1)
  | _ => true
def ax_okI (bs : ByteArray) (nL : Nat) (e : Nat × Instr × Nat × Nat) : Bool :=
  decide (decode bs e.1 = .ok (e.2.1, e.2.2.1 - e.1)) && (ax_sw e.2.1 || decide (e.2.2.1 = e.1 + ax_len e.2.1)) &&
    (match ax_off e.2.1 with | some o => decide ((e.1 : Int) + o = (e.2.2.2 : Int)) | none => true) && decide (ax_top e.2.1 < nL) && ax_swok e.1 e.2.1
theorem ax_lookup2_in {α : Type} {l : List ((Nat × Nat) × α)} {k : Nat × Nat} {x : α} (h : l.lookup k = some x) : (k, x) ∈ l := by
  induction l with
  | nil => simp at h
  | cons q l ih =>
    obtain ⟨i, w⟩ := q
    by_cases hk : k = i
    · subst hk
      simp at h
      subst h
      exact List.mem_cons_self
    · rw [List.lookup_cons, show (k == i) = false from beq_eq_false_iff_ne.mpr hk] at h
      exact List.mem_cons_of_mem _ (ih h)
theorem ax_lookup_in {α : Type} {l : List (Nat × α)} {k : Nat} {x : α} (h : l.lookup k = some x) : (k, x) ∈ l := by
  induction l with
  | nil => simp at h
  | cons q l ih =>
    obtain ⟨i, w⟩ := q
    by_cases hk : k = i
    · subst hk
      simp at h
      subst h
      exact List.mem_cons_self
    · rw [List.lookup_cons, show (k == i) = false by simpa using hk] at h
      exact List.mem_cons_of_mem _ (ih h)
/-- what an instruction's row of a good table says -/
def ax_It (bs : ByteArray) (nL pc : Nat) (i : Instr) (nx tg : Nat) : Prop :=
  decode bs pc = .ok (i, nx - pc) ∧ (ax_sw i = false → decode bs pc = .ok (i, ax_len i) ∧ nx = pc + ax_len i) ∧ (∀ o, ax_off i = some o → (pc : Int) + o = (tg : Int)) ∧ ax_top i < nL ∧ ax_swok pc i = true
theorem ax_okI_at {bs : ByteArray} {nL : Nat} {tb : List (Nat × Instr × Nat × Nat)} (hok : tb.all (ax_okI bs nL) = true) {pc nx tg : Nat} {i : Instr} (hd : tb.lookup pc = some (i, nx, tg)) : ax_It bs nL pc i nx tg := by
  have h := List.all_eq_true.mp hok _ (ax_lookup_in hd)
  simp only [ax_okI, Bool.and_eq_true, Bool.or_eq_true, decide_eq_true_eq] at h
  obtain ⟨⟨⟨⟨h1, h2⟩, h3⟩, h4⟩, h5⟩ := h
  refine ⟨h1, fun hs => ?_, fun o ho => ?_, h4, h5⟩
  · have h6 : nx = pc + ax_len i := by
      rcases h2 with h2 | h2
      · rw [hs] at h2; cases h2
      · exact h2
    refine ⟨?_, h6⟩
    rw [h1, h6, Nat.add_sub_cancel_left]
  · rw [ho] at h3
    simpa using h3
section AxSimple
variable {p : Program} {l : Launch} {e : Env} {R : Room} {s : State} {m : MethodId} {args : Array Value} {below : List Frame} {meth : Method} {c : Code} {H : Heap} {locs : List Loc} {cells slots : Nat} {Q : State → Prop} {bs : ByteArray} {nL pc nx tg b base : Nat}
/-- the locals, for a value stored -/
theorem ax_s_sound (hx : p.tables.exec = Jvm.exec) (hb : c.code = bs) {i : Instr} (hI : ax_It bs nL pc i nx tg) {lv : ax_L} {st : List Value} {h : ax_H} {s' : ax_S} (hs : ax_s i nx tg lv st h = some s') :
    s'.2.2.2 = h ∧ ∀ ls, lv_has ls nL (ax_lm b base lv) → (∀ ls', lv_has ls' nL (ax_lm b base s'.2.1) → W p l e R s m args below meth c H locs cells slots Q (F0 m s'.1 ls' (s'.2.2.1.map (ax_v b base)))) →
      W p l e R s m args below meth c H locs cells slots Q (F0 m pc ls (st.map (ax_v b base))) := by
  obtain ⟨-, hd0, ho, ht, -⟩ := hI
  cases i with
  | aconst_null =>
    obtain ⟨hd, rfl⟩ := hd0 rfl
    cases hs
    exact ⟨rfl, fun ls hl k => lv_null hx hb hd (k ls hl)⟩
  | iconst n =>
    obtain ⟨hd, rfl⟩ := hd0 rfl
    cases hs
    exact ⟨rfl, fun ls hl k => lv_iconst hx hb hd rfl (k ls hl)⟩
  | bipush n =>
    obtain ⟨hd, rfl⟩ := hd0 rfl
    cases hs
    exact ⟨rfl, fun ls hl k => lv_bipush hx hb hd rfl (k ls hl)⟩
  | sipush n =>
    obtain ⟨hd, rfl⟩ := hd0 rfl
    cases hs
    exact ⟨rfl, fun ls hl k => lv_sipush hx hb hd rfl (k ls hl)⟩
  | lconst n =>
    obtain ⟨hd, rfl⟩ := hd0 rfl
    cases hs
    exact ⟨rfl, fun ls hl k => lv_lconst hx hb hd rfl (k ls hl)⟩
  | iload k =>
    obtain ⟨hd, rfl⟩ := hd0 rfl
    simp only [ax_s, ax_load] at hs
    split at hs
    · rename_i v hv
      cases v <;> simp [ax_isI] at hs
      subst hs
      exact ⟨rfl, fun ls hl kk => lv_iload hx hb hd (ax_lm_get hl hv) (kk ls hl)⟩
    · cases hs
  | iload_n k =>
    obtain ⟨hd, rfl⟩ := hd0 rfl
    simp only [ax_s, ax_load] at hs
    split at hs
    · rename_i v hv
      cases v <;> simp [ax_isI] at hs
      subst hs
      exact ⟨rfl, fun ls hl kk => lv_iload_n hx hb hd rfl (ax_lm_get hl hv) (kk ls hl)⟩
    · cases hs
  | lload k =>
    obtain ⟨hd, rfl⟩ := hd0 rfl
    simp only [ax_s, ax_load] at hs
    split at hs
    · rename_i v hv
      cases v <;> simp [ax_isL] at hs
      subst hs
      exact ⟨rfl, fun ls hl kk => lv_lload hx hb hd (ax_lm_get hl hv) (kk ls hl)⟩
    · cases hs
  | lload_n k =>
    obtain ⟨hd, rfl⟩ := hd0 rfl
    simp only [ax_s, ax_load] at hs
    split at hs
    · rename_i v hv
      cases v <;> simp [ax_isL] at hs
      subst hs
      exact ⟨rfl, fun ls hl kk => lv_lload_n hx hb hd rfl (ax_lm_get hl hv) (kk ls hl)⟩
    · cases hs
  | aload k =>
    obtain ⟨hd, rfl⟩ := hd0 rfl
    simp only [ax_s, ax_load] at hs
    split at hs
    · rename_i v hv
      cases v <;> simp [ax_isA] at hs
      · subst hs
        exact ⟨rfl, fun ls hl kk => lv_aloadN hx hb hd (ax_lm_get hl hv) (kk ls hl)⟩
      · subst hs
        exact ⟨rfl, fun ls hl kk => lv_aload hx hb hd (ax_lm_get hl hv) (kk ls hl)⟩
    · cases hs
  | aload_n k =>
    obtain ⟨hd, rfl⟩ := hd0 rfl
    simp only [ax_s, ax_load] at hs
    split at hs
    · rename_i v hv
      cases v <;> simp [ax_isA] at hs
      · subst hs
        exact ⟨rfl, fun ls hl kk => lv_aload_nN hx hb hd rfl (ax_lm_get hl hv) (kk ls hl)⟩
      · subst hs
        exact ⟨rfl, fun ls hl kk => lv_aload_n hx hb hd rfl (ax_lm_get hl hv) (kk ls hl)⟩
    · cases hs
  | istore k =>
    obtain ⟨hd, rfl⟩ := hd0 rfl
    simp only [ax_s, ax_store1] at hs
    split at hs
    · rename_i v st1
      cases v <;> simp [ax_isI] at hs
      subst hs
      exact ⟨rfl, fun ls hl kk => lv_istore hx hb hd hl ht rfl (fun ls' h' => kk ls' (by rw [ax_lm_sto1]; exact h'))⟩
    · cases hs
  | istore_n k =>
    obtain ⟨hd, rfl⟩ := hd0 rfl
    simp only [ax_s, ax_store1] at hs
    split at hs
    · rename_i v st1
      cases v <;> simp [ax_isI] at hs
      subst hs
      exact ⟨rfl, fun ls hl kk => lv_istore_n hx hb hd rfl hl ht rfl (fun ls' h' => kk ls' (by rw [ax_lm_sto1]; exact h'))⟩
    · cases hs
  | astore k =>
    obtain ⟨hd, rfl⟩ := hd0 rfl
    simp only [ax_s, ax_store1] at hs
    split at hs
    · rename_i v st1
      cases v <;> simp [ax_isA] at hs
      · subst hs
        exact ⟨rfl, fun ls hl kk => lv_astoreN hx hb hd hl ht rfl (fun ls' h' => kk ls' (by rw [ax_lm_sto1]; exact h'))⟩
      · subst hs
        exact ⟨rfl, fun ls hl kk => lv_astore hx hb hd hl ht rfl (fun ls' h' => kk ls' (by rw [ax_lm_sto1]; exact h'))⟩
    · cases hs
  | astore_n k =>
    obtain ⟨hd, rfl⟩ := hd0 rfl
    simp only [ax_s, ax_store1] at hs
    split at hs
    · rename_i v st1
      cases v <;> simp [ax_isA] at hs
      · subst hs
        exact ⟨rfl, fun ls hl kk => lv_astore_nN hx hb hd rfl hl ht rfl (fun ls' h' => kk ls' (by rw [ax_lm_sto1]; exact h'))⟩
      · subst hs
        exact ⟨rfl, fun ls hl kk => lv_astore_n hx hb hd rfl hl ht rfl (fun ls' h' => kk ls' (by rw [ax_lm_sto1]; exact h'))⟩
    · cases hs
  | lstore k =>
    obtain ⟨hd, rfl⟩ := hd0 rfl
    simp only [ax_s, ax_store2] at hs
    split at hs
    · cases hs
      exact ⟨rfl, fun ls hl kk => lv_lstore hx hb hd hl ht rfl (fun ls' h' => kk ls' (by rw [ax_lm_sto2]; exact h'))⟩
    · cases hs
  | lstore_n k =>
    obtain ⟨hd, rfl⟩ := hd0 rfl
    simp only [ax_s, ax_store2] at hs
    split at hs
    · cases hs
      exact ⟨rfl, fun ls hl kk => lv_lstore_n hx hb hd rfl hl ht rfl (fun ls' h' => kk ls' (by rw [ax_lm_sto2]; exact h'))⟩
    · cases hs
  | iinc k n =>
    obtain ⟨hd, rfl⟩ := hd0 rfl
    simp only [ax_s, ax_iinc] at hs
    split at hs
    · rename_i x hv
      cases hs
      refine ⟨rfl, fun ls hl kk => ?_⟩
      obtain ⟨j, hj⟩ := List.getElem?_of_mem (ax_lm_in (b := b) (base := base) hv)
      exact lv_iinc hx hb hd hl hj rfl ht rfl (fun ls' h' => kk ls' (by rw [ax_lm_sto1]; exact h'))
    · cases hs
  | iadd =>
    obtain ⟨hd, rfl⟩ := hd0 rfl
    simp only [ax_s, ax_ii] at hs
    split at hs
    · cases hs
      exact ⟨rfl, fun ls hl kk => lv_iadd hx hb hd (kk ls hl)⟩
    · cases hs
  | isub =>
    obtain ⟨hd, rfl⟩ := hd0 rfl
    simp only [ax_s, ax_ii] at hs
    split at hs
    · cases hs
      exact ⟨rfl, fun ls hl kk => lv_isub hx hb hd (kk ls hl)⟩
    · cases hs
  | imul =>
    obtain ⟨hd, rfl⟩ := hd0 rfl
    simp only [ax_s, ax_ii] at hs
    split at hs
    · cases hs
      exact ⟨rfl, fun ls hl kk => lv_imul hx hb hd (kk ls hl)⟩
    · cases hs
  | iand =>
    obtain ⟨hd, rfl⟩ := hd0 rfl
    simp only [ax_s, ax_ii] at hs
    split at hs
    · cases hs
      exact ⟨rfl, fun ls hl kk => lv_iand hx hb hd (kk ls hl)⟩
    · cases hs
  | ladd =>
    obtain ⟨hd, rfl⟩ := hd0 rfl
    simp only [ax_s, ax_ll] at hs
    split at hs
    · cases hs
      exact ⟨rfl, fun ls hl kk => lv_ladd hx hb hd (kk ls hl)⟩
    · cases hs
  | lsub =>
    obtain ⟨hd, rfl⟩ := hd0 rfl
    simp only [ax_s, ax_ll] at hs
    split at hs
    · cases hs
      exact ⟨rfl, fun ls hl kk => lv_lsub hx hb hd (kk ls hl)⟩
    · cases hs
  | lmul =>
    obtain ⟨hd, rfl⟩ := hd0 rfl
    simp only [ax_s, ax_ll] at hs
    split at hs
    · cases hs
      exact ⟨rfl, fun ls hl kk => lv_lmul hx hb hd (kk ls hl)⟩
    · cases hs
  | land =>
    obtain ⟨hd, rfl⟩ := hd0 rfl
    simp only [ax_s, ax_ll] at hs
    split at hs
    · cases hs
      exact ⟨rfl, fun ls hl kk => lv_land hx hb hd (kk ls hl)⟩
    · cases hs
  | lor =>
    obtain ⟨hd, rfl⟩ := hd0 rfl
    simp only [ax_s, ax_ll] at hs
    split at hs
    · cases hs
      exact ⟨rfl, fun ls hl kk => lv_lor hx hb hd (kk ls hl)⟩
    · cases hs
  | lcmp =>
    obtain ⟨hd, rfl⟩ := hd0 rfl
    simp only [ax_s, ax_ll] at hs
    split at hs
    · cases hs
      exact ⟨rfl, fun ls hl kk => W.lcmp hx hb hd (kk ls hl)⟩
    · cases hs
  | lshl =>
    obtain ⟨hd, rfl⟩ := hd0 rfl
    simp only [ax_s, ax_lshl] at hs
    split at hs
    · cases hs
      exact ⟨rfl, fun ls hl kk => lv_lshl hx hb hd rfl (kk ls hl)⟩
    · cases hs
  | i2l =>
    obtain ⟨hd, rfl⟩ := hd0 rfl
    simp only [ax_s, ax_i1] at hs
    split at hs
    · cases hs
      exact ⟨rfl, fun ls hl kk => lv_i2l hx hb hd rfl (kk ls hl)⟩
    · cases hs
  | i2c =>
    obtain ⟨hd, rfl⟩ := hd0 rfl
    simp only [ax_s, ax_i1] at hs
    split at hs
    · cases hs
      exact ⟨rfl, fun ls hl kk => lv_i2c hx hb hd rfl (kk ls hl)⟩
    · cases hs
  | ineg =>
    obtain ⟨hd, rfl⟩ := hd0 rfl
    simp only [ax_s, ax_i1] at hs
    split at hs
    · cases hs
      exact ⟨rfl, fun ls hl kk => lv_ineg hx hb hd (kk ls hl)⟩
    · cases hs
  | lneg =>
    obtain ⟨hd, rfl⟩ := hd0 rfl
    simp only [ax_s, ax_l1] at hs
    split at hs
    · cases hs
      exact ⟨rfl, fun ls hl kk => lv_lneg hx hb hd (kk ls hl)⟩
    · cases hs
  | l2i =>
    obtain ⟨hd, rfl⟩ := hd0 rfl
    simp only [ax_s, ax_l1] at hs
    split at hs
    · cases hs
      exact ⟨rfl, fun ls hl kk => lv_l2i hx hb hd rfl (kk ls hl)⟩
    · cases hs
  | dup =>
    obtain ⟨hd, rfl⟩ := hd0 rfl
    simp only [ax_s, ax_dup] at hs
    split at hs
    · rename_i v st1
      split at hs
      · rename_i hv
        cases hs
        exact ⟨rfl, fun ls hl kk => lv_dup hx hb hd (by rw [ax_v_cat]; exact hv) (kk ls hl)⟩
      · cases hs
    · cases hs
  | goto o =>
    obtain ⟨hd, rfl⟩ := hd0 rfl
    cases hs
    exact ⟨rfl, fun ls hl kk => lv_goto hx hb hd (ho o rfl) (kk ls hl)⟩
  | _ => cases hs
end AxSimple
end
section
section AxCell
variable {p : Program} {l : Launch} {e : Env} {R : Room} {s : State} {m : MethodId} {args : Array Value} {below : List Frame} {meth : Method} {c : Code} {H : Heap} {locs : List Loc} {cells slots : Nat} {Q : State → Prop}
variable {cc : ByteArray} {pc : Nat} {ls : Array Slot} {rest : List Value} {D : va_G} {cl : List vw_C} {tys : List (ClassId × FieldType)} {a : Nat}
theorem ax_one {q : Nat × va_E} (h : va_at D cl q H) : va_P D cl [q] H := fun k x hk => by
  cases k with
  | zero => cases hk; exact h
  | succ k => simp at hk
/-- a field's link: its own class's, or a nest mate's -/
def ax_lk (own : String) (ix : Nat) (T : u_T) (k : Nat) (args : Array Value) (s : State) : Prop :=
  (Jvm.Cond.fieldLink own ix (T k).1 (T k).2.1 (T k).2.2.1).before args s = true ∨ ∃ host, (Jvm.Cond.fieldLinkNest own ix (T k).1 (T k).2.1 (T k).2.2.1 host).before args s = true
theorem ax_getR (hx : p.tables.exec = Jvm.exec) (hb : c.code = cc) {own C : String} {T : u_T} {N ci ix : Nat} (hts : ∀ w ∈ u_ws C T N, w.before args s = true) (hown : s.vm.findClass own = some m.cls) (hK : va_K D cl tys s) {fs : List Value} (hat : va_at D cl (a, .inr (ci, fs)) H) (hc : cl[ci]? = some (C, T, N)) (k : Nat) (hk : k < N) (hl : ax_lk own ix T k args s) {v : Value} (hv : fs[k]? = some v) (hdg : decode cc pc = .ok (.getfield ix, 3))
    (kk : W p l e R s m args below meth c H locs cells slots Q (F0 m (pc + 3) ls (v :: rest))) : W p l e R s m args below meth c H locs cells slots Q (F0 m pc ls (.ref a :: rest)) := by
  rcases hl with hl | ⟨host, hl⟩
  · exact va_get hx hb hts (fun _ h => h) hown hK (ax_one hat) 0 rfl hc k hk hl (fun _ h => h) hv hdg kk
  · exact va_getN hx hb hts (fun _ h => h) hown hK (ax_one hat) 0 rfl hc k hk hl (fun _ h => h) hv hdg kk
theorem ax_putR (hx : p.tables.exec = Jvm.exec) (hb : c.code = cc) {own C : String} {T : u_T} {N ci ix : Nat} (hts : ∀ w ∈ u_ws C T N, w.before args s = true) (ty0 : Nat → FieldType) (hty : ∀ k, k < N → parseFieldDescriptor (T k).2.2.1 = some (ty0 k)) (hnm : ∀ a, a < N → ∀ b, b < N → a ≠ b → (T a).2.1 ≠ (T b).2.1) (hown : s.vm.findClass own = some m.cls) (hK : va_K D cl tys s) {fs : List Value} (hat : va_at D cl (a, .inr (ci, fs)) H) (hc : cl[ci]? = some (C, T, N)) (k : Nat) (hk : k < N)
    (hl : ((T k).2.2.2 = false ∧ ax_lk own ix T k args s) ∨ ((T k).2.2.2 = true ∧ meth.name = "<init>" ∧ (T k).1 = own ∧ (Jvm.Cond.fieldLink own ix (T k).1 (T k).2.1 (T k).2.2.1).before args s = true)) {v : Value} (hn : narrow (ty0 k) v = v) (hfit : fits (ty0 k) v = true) (hlt : k < fs.length) (hdg : decode cc pc = .ok (.putfield ix, 3))
    (kk : ∀ (H1 : Heap) (i : Nat), va_at D cl (a, .inr (ci, fs.set k v)) H1 → H1.size = H.size → (∀ q : Nat, q ≠ a → H1[q]? = H[q]?) → W p l e R s m args below meth c H1 (locs ++ [⟨a, i⟩]) cells slots Q (F0 m (pc + 3) ls rest)) : W p l e R s m args below meth c H locs cells slots Q (F0 m pc ls (v :: .ref a :: rest)) := by
  have hap := va_apart (own := own) hts (fun _ h => h) ty0 hty hnm hK hc
  obtain ⟨r, h1, cell, q1, q2, q3, q4⟩ := hat
  have hr : r = (C, T, N) := Option.some.inj (h1.symm.trans hc)
  subst hr
  obtain ⟨hS, hfc, kC, hkC, hkind⟩ := hK.1 ci _ hc
  obtain ⟨cf, kf, fi, f, hi, hsl⟩ := hS k hk
  have hlay := hts _ (u_in_lay hk)
  have hst := (u_facts hfc hkC (u_lays hts (fun _ h => h) hk) hi).1
  have done : ∀ H1 : Heap, H1[a]? = some (cell.setSlot f.slot v) → va_at D cl (a, .inr (ci, fs.set k v)) H1 := by
    intro H1 e1
    rw [hsl] at e1
    exact ⟨_, hc, t_OB.to (V := updV (vp_V fs) k v) ⟨_, e1, q2, q3, t_set q4 hap hk v⟩ (fun j _ => vp_updV_set hlt v j)⟩
  have hslot : f.slot < cell.slots.size := by rw [hsl]; exact k2_hasslot (q4 k hk)
  rcases hl with ⟨hfin, hl⟩ | ⟨hfin, hin, hdecl, hl⟩
  · unfold u_lay at hlay
    rw [if_neg (by rw [hfin]; decide)] at hlay
    have h6 := u_store hfc hkC hkind hlay hi (hty k hk) hn hfit
    rcases hl with hl | ⟨host, hl⟩
    · exact W.putK hx hb (f := f) ⟨hown, hl, ⟨_, _, _, hi⟩, hst⟩ (by rw [q2]; exact h6) q1 q3 hslot rfl rfl hdg fun H' e1 e2 e3 => kk H' _ (done H' e1) e2 e3
    · exact va_WputK hx hb (f := f) hown hl hi hst (by rw [q2]; exact h6) q1 q3 hslot rfl rfl hdg fun H' e1 e2 e3 => kk H' _ (done H' e1) e2 e3
  · unfold u_lay at hlay
    rw [if_pos hfin] at hlay
    have hcf : m.cls = cf := by
      obtain ⟨_, _, c', _, _, _, -, -, hf', -, -, -, hown2, -⟩ := Cond.laysFinal_spec hlay
      have e1 : c' = cf := by have := hi.symm.trans hf'; simp at this; exact this.1.symm
      rw [hdecl] at hown2
      rw [← e1]; exact Option.some.inj (hown.symm.trans hown2)
    have h6 := u_fits hfc hkC hkind (Or.inr hlay) hi (hty k hk) hn hfit
    exact W.putFinK hx hb hown hl hi hst hcf hin (by rw [q2]; exact h6) q1 q3 hslot rfl rfl hdg fun H' e1 e2 e3 => kk H' _ (done H' e1) e2 e3
theorem ax_iastR (hx : p.tables.exec = Jvm.exec) (hb : c.code = cc) {cA : ClassId} {n : Nat} {f : Nat → Int32} (hA : ArrOfT s cA .int) (hat : va_at D cl (a, .inl (cA, n, .inl f)) H) {i x : Int32} (hin : vp_in i n) (hdg : decode cc pc = .ok (.iastore, 1))
    (kk : ∀ (H1 : Heap) (j : Nat), va_at D cl (a, .inl (cA, n, .inl (upd f i.toNatClampNeg x))) H1 → H1.size = H.size → (∀ q : Nat, q ≠ a → H1[q]? = H[q]?) → W p l e R s m args below meth c H1 (locs ++ [⟨a, j⟩]) cells slots Q (F0 m (pc + 1) ls rest)) : W p l e R s m args below meth c H locs cells slots Q (F0 m pc ls (.int x :: .int i :: .ref a :: rest)) := by
  have hcell : H[a]? = some (vp_cell cA (n, .inl f)) := hat
  refine W.iast hx hb hcell (hA n (fun j => .int (f j))) (fun q => by cases q) (by show ¬ (i < 0 ∨ (arrV _ _ _).slots.size ≤ _); rw [arrV_size]; exact hin) rfl rfl hdg fun H1 e z oq => kk H1 _ ?_ z oq
  show H1[a]? = some (vp_cell _ _)
  rw [e, vp_cell_i, vp_cell_i, arrV_store]
  congr 2
  funext q
  by_cases hq : q = i.toNatClampNeg
  · subst hq
    simp [updV, upd]
  · simp [updV, upd, hq]
theorem ax_castR (hx : p.tables.exec = Jvm.exec) (hb : c.code = cc) {cA : ClassId} {n : Nat} {f : Nat → Int32} (hA : ArrOfT s cA .char) (hat : va_at D cl (a, .inl (cA, n, .inl f)) H) {i x : Int32} (hin : vp_in i n) (hdg : decode cc pc = .ok (.castore, 1))
    (kk : ∀ (H1 : Heap) (j : Nat), va_at D cl (a, .inl (cA, n, .inl (upd f i.toNatClampNeg (vp_nar .char x)))) H1 → H1.size = H.size → (∀ q : Nat, q ≠ a → H1[q]? = H[q]?) → W p l e R s m args below meth c H1 (locs ++ [⟨a, j⟩]) cells slots Q (F0 m (pc + 1) ls rest)) : W p l e R s m args below meth c H locs cells slots Q (F0 m pc ls (.int x :: .int i :: .ref a :: rest)) := by
  have hcell : H[a]? = some (vp_cell cA (n, .inl f)) := hat
  refine W.cast hx hb hcell (hA n (fun j => .int (f j))) (fun q => by cases q) (by show ¬ (i < 0 ∨ (arrV _ _ _).slots.size ≤ _); rw [arrV_size]; exact hin) rfl rfl hdg fun H1 e z oq => kk H1 _ ?_ z oq
  show H1[a]? = some (vp_cell _ _)
  rw [e, vp_cell_i, vp_cell_i, arrV_store]
  congr 2
  funext q
  by_cases hq : q = i.toNatClampNeg
  · subst hq
    simp [updV, upd, vp_nar]
    try rfl
  · simp [updV, upd, hq]
theorem ax_lastR (hx : p.tables.exec = Jvm.exec) (hb : c.code = cc) {cA : ClassId} {n : Nat} {f : Nat → Int64} (hA : ArrOfT s cA .long) (hat : va_at D cl (a, .inl (cA, n, .inr (.inl f))) H) {i : Int32} {x : Int64} (hin : vp_in i n) (hdg : decode cc pc = .ok (.lastore, 1))
    (kk : ∀ (H1 : Heap) (j : Nat), va_at D cl (a, .inl (cA, n, .inr (.inl (vp_updL f i.toNatClampNeg x)))) H1 → H1.size = H.size → (∀ q : Nat, q ≠ a → H1[q]? = H[q]?) → W p l e R s m args below meth c H1 (locs ++ [⟨a, j⟩]) cells slots Q (F0 m (pc + 1) ls rest)) : W p l e R s m args below meth c H locs cells slots Q (F0 m pc ls (.long x :: .int i :: .ref a :: rest)) := by
  have hcell : H[a]? = some (vp_cell cA (n, .inr (.inl f))) := hat
  refine W.last hx hb hcell (hA n (fun j => .long (f j))) (fun q => by cases q) (by show ¬ (i < 0 ∨ (arrV _ _ _).slots.size ≤ _); rw [arrV_size]; exact hin) rfl rfl hdg fun H1 e z oq => kk H1 _ ?_ z oq
  show H1[a]? = some (vp_cell _ _)
  rw [e, vp_cell_l, vp_cell_l, arrV_store]
  congr 2
  funext q
  by_cases hq : q = i.toNatClampNeg
  · subst hq
    simp [updV, vp_updL]
  · simp [updV, vp_updL, hq]
theorem ax_aastR (hx : p.tables.exec = Jvm.exec) (hb : c.code = cc) {cA : ClassId} {r : vw_C} {n v ci : Nat} {vs : List Value} {f : Nat → Option Nat} (hK : va_K D cl tys s) (hRA : va_RA s cA (.object r.1)) (hat : va_at D cl (a, .inl (cA, n, .inr (.inr (.inr (.inr f))))) H) (hv : va_at D cl (v, .inr (ci, vs)) H) (hc : cl[ci]? = some r) {i : Int32} (hin : vp_in i n) (hdg : decode cc pc = .ok (.aastore, 1))
    (kk : ∀ (H1 : Heap) (j : Nat), va_at D cl (a, .inl (cA, n, .inr (.inr (.inr (.inr (va_up f i.toNatClampNeg (some v))))))) H1 → H1.size = H.size → (∀ q : Nat, q ≠ a → H1[q]? = H[q]?) → W p l e R s m args below meth c H1 (locs ++ [⟨a, j⟩]) cells slots Q (F0 m (pc + 1) ls rest)) : W p l e R s m args below meth c H locs cells slots Q (F0 m pc ls (.ref v :: .int i :: .ref a :: rest)) := by
  have hcell : H[a]? = some (vp_cell cA (n, .inr (.inr (.inr (.inr f))))) := hat
  have hlt : i.toNatClampNeg < n := Nat.not_le.mp fun q => hin (Or.inr q)
  have h0 : ¬ i < 0 := fun q => hin (Or.inl q)
  obtain ⟨r', hr', cellV, g1, g2, g3, -⟩ := hv
  have hcls := (hK.1 ci r hc).2
  obtain ⟨kA, comp, k1, k2, k3, -⟩ := hRA
  have hcomp : comp = D.1 ci := Option.some.inj (k3.symm.trans hcls.1)
  subst hcomp
  obtain ⟨kC, hkC, -⟩ := hcls.2
  refine W.aast hx hb hcell (fun q h => by cases h) (fun h => by cases h) k1 k2 rfl hkC ⟨h0, by show _ < (arrV _ _ _).slots.size; rw [arrV_size]; exact hlt⟩ g1 (fun q h => by rw [g3] at h; cases h) (by rw [g2]; exact hkC) (by rw [g2]; exact va_assign hcls) rfl rfl hdg fun H1 e z oq => kk H1 _ ?_ z oq
  show H1[a]? = some (vp_cell _ _)
  rw [e, vp_cell_q, vp_cell_q, arrV_store]
  congr 2
  funext q
  by_cases hq : q = i.toNatClampNeg
  · subst hq
    simp [updV, va_up, va_rf]
  · simp [updV, va_up, hq]
theorem ax_aastNR (hx : p.tables.exec = Jvm.exec) (hb : c.code = cc) {cA : ClassId} {C : String} {n : Nat} {f : Nat → Option Nat} (hA : ArrOfT s cA (.object C)) (hat : va_at D cl (a, .inl (cA, n, .inr (.inr (.inr (.inr f))))) H) {i : Int32} (hin : vp_in i n) (hdg : decode cc pc = .ok (.aastore, 1))
    (kk : ∀ (H1 : Heap) (j : Nat), va_at D cl (a, .inl (cA, n, .inr (.inr (.inr (.inr (va_up f i.toNatClampNeg none)))))) H1 → H1.size = H.size → (∀ q : Nat, q ≠ a → H1[q]? = H[q]?) → W p l e R s m args below meth c H1 (locs ++ [⟨a, j⟩]) cells slots Q (F0 m (pc + 1) ls rest)) : W p l e R s m args below meth c H locs cells slots Q (F0 m pc ls (.null :: .int i :: .ref a :: rest)) := by
  have hcell : H[a]? = some (vp_cell cA (n, .inr (.inr (.inr (.inr f))))) := hat
  refine va_WaastN (C := C) hx hb hcell (hA n (fun j => va_rf (f j))) (fun h => by cases h) (by show ¬ (i < 0 ∨ (arrV _ _ _).slots.size ≤ _); rw [arrV_size]; exact hin) rfl rfl hdg fun H1 e z oq => kk H1 _ ?_ z oq
  show H1[a]? = some (vp_cell _ _)
  rw [e, vp_cell_q, vp_cell_q, arrV_store]
  congr 2
  funext q
  by_cases hq : q = i.toNatClampNeg
  · subst hq
    simp [updV, va_up, va_rf]
  · simp [updV, va_up, hq]
theorem ax_newR (hx : p.tables.exec = Jvm.exec) (hb : c.code = cc) {own C : String} {T : u_T} {N ci ix : Nat} (hts : ∀ w ∈ u_ws C T N, w.before args s = true) (ty : Nat → FieldType) (hty : ∀ k, k < N → parseFieldDescriptor (T k).2.2.1 = some (ty k)) (hown : s.vm.findClass own = some m.cls) (hcl : (Jvm.Cond.classLink own ix C).before args s = true) (hinst : (Jvm.Cond.instantiable C N).before args s = true) (hini : (Jvm.Cond.initialized C).before args s = true)
    (hK : va_K D cl tys s) (hc : cl[ci]? = some (C, T, N)) {fs : List Value} (hfs : ∀ j, j < N → defaultValue (ty j) = vp_V fs j) (hcells : cells + 1 ≤ R.cells) (hslots : slots + N ≤ R.slots) (hdg : decode cc pc = .ok (.new ix, 3))
    (kk : ∀ H1 : Heap, va_at D cl (H.size, .inr (ci, fs)) H1 → H1.size = H.size + 1 → (∀ q : Nat, q < H.size → H1[q]? = H[q]?) → W p l e R s m args below meth c H1 locs (cells + 1) (slots + N) Q (F0 m (pc + 3) ls (.ref H.size :: rest))) : W p l e R s m args below meth c H locs cells slots Q (F0 m pc ls rest) := by
  have hKn := hK.1 ci _ hc
  refine W.newcK hx hb hown hcl hinst hini rfl hdg hcells hslots hKn.2.1 rfl fun H1 kC hkC e1 z1 o1 => kk H1 ?_ z1 o1
  exact ⟨_, hc, (u_born ty hts (fun _ h => h) hKn hkC e1 hty).to hfs⟩
theorem ax_newaR (hx : p.tables.exec = Jvm.exec) (hb : c.code = cc) {t : ArrayType} (harr : (Jvm.Cond.arrayClass (newarray.typeOf t)).before args s = true) {cA : ClassId} (hname : s.vm.findClass ("[" ++ (newarray.typeOf t).toString) = some cA) {n : Int32} {z : vp_A} (hz : vp_cell cA z = arrV cA n.toNatClampNeg (fun _ => defaultValue (newarray.typeOf t))) (hn : ¬ n < 0) (hbytes : n.toNatClampNeg * componentBytes (newarray.typeOf t) ≤ 536870912) (hcells : cells + 1 ≤ R.cells) (hslots : slots + n.toNatClampNeg ≤ R.slots) (hdg : decode cc pc = .ok (.newarray t, 2))
    (kk : ∀ H1 : Heap, va_at D cl (H.size, .inl (cA, z)) H1 → H1.size = H.size + 1 → (∀ q : Nat, q < H.size → H1[q]? = H[q]?) → W p l e R s m args below meth c H1 locs (cells + 1) (slots + n.toNatClampNeg) Q (F0 m (pc + 2) ls (.ref H.size :: rest))) : W p l e R s m args below meth c H locs cells slots Q (F0 m pc ls (.int n :: rest)) := by
  refine va_newaK hx hb harr rfl hdg rfl hn rfl hbytes hcells hslots rfl fun H1 cB e1 z1 o1 hAr hNm => ?_
  cases hname.symm.trans hNm
  refine kk H1 ?_ z1 o1
  show H1[H.size]? = some (vp_cell _ _)
  rw [hz]
  exact e1
theorem ax_newqR (hx : p.tables.exec = Jvm.exec) (hb : c.code = cc) {own C : String} {ix : Nat} (hown : s.vm.findClass own = some m.cls) (hcl : (Jvm.Cond.classLink own ix C).before args s = true) (hov : (Jvm.Cond.arrayOver (.object C)).before args s = true) {cA : ClassId} (hname : s.vm.findClass ("[" ++ (FieldType.object C).toString) = some cA) {n : Int32} (hn : ¬ n < 0) (hbytes : n.toNatClampNeg * 4 ≤ 536870912) (hcells : cells + 1 ≤ R.cells) (hslots : slots + n.toNatClampNeg ≤ R.slots) (hdg : decode cc pc = .ok (.anewarray ix, 3))
    (kk : ∀ H1 : Heap, va_at D cl (H.size, .inl (cA, n.toNatClampNeg, .inr (.inr (.inr (.inr (fun _ => none)))))) H1 → H1.size = H.size + 1 → (∀ q : Nat, q < H.size → H1[q]? = H[q]?) → W p l e R s m args below meth c H1 locs (cells + 1) (slots + n.toNatClampNeg) Q (F0 m (pc + 3) ls (.ref H.size :: rest))) : W p l e R s m args below meth c H locs cells slots Q (F0 m pc ls (.int n :: rest)) := by
  refine W.anew hx hb hown hcl hov rfl hdg rfl hn hbytes hcells hslots fun cB kA comp f1 f2 f3 f4 => ?_
  cases hname.symm.trans f1
  refine kk _ ?_ (by rw [Array.size_push]) (fun q hq => by rw [Array.getElem?_push, if_neg (Nat.ne_of_lt hq)])
  show (H.push _)[H.size]? = some (vp_cell _ _)
  rw [Array.getElem?_push_size, vp_cell_q, ← arrV_new]
  rfl
end AxCell
end
section
section AxRep
variable (D : va_G) (dA : Nat → ClassId) (b base : Nat)
/-- what lies in the machine's heap for a cell -/
def ax_at (s : State) (i : Nat) (c : Option ax_C) (H : Heap) : Prop := match c with
  | none => ∃ ce : Cell, H[ax_ad b base i]? = some ce ∧ ce.vm = .none
  | some (.inl (9, n, .inl xs)) => va_X (ax_ad b base i) n xs s H
  | some x => va_at D classes (ax_ad b base i, ax_e b base dA x) H
/-- the whole heap from base on, and the script -/
def ax_rep (s : State) (h : ax_H) (H : Heap) : Prop :=
  (∃ n xs, h.1[0]? = some (some (.inl (9, n, .inl xs)))) ∧ H.size + 1 = base + h.1.length ∧ ∀ i c, h.1[i]? = some c → ax_at D dA b base s i c H
end AxRep
section AxRep2
variable {D : va_G} {dA : Nat → ClassId} {b base : Nat}
theorem ax_at_kept {s : State} {i : Nat} {c : Option ax_C} {H H1 : Heap} (h : ax_at D dA b base s i c H) (hq : H1[ax_ad b base i]? = H[ax_ad b base i]?) : ax_at D dA b base s i c H1 := by
  unfold ax_at at h ⊢
  split
  · obtain ⟨ce, h1, h2⟩ := h
    exact ⟨ce, hq.trans h1, h2⟩
  · exact va_X.kept h hq
  · rename_i x hx
    split at h
    · rename_i e; cases e
    · rename_i n xs e
      exact absurd (Option.some.inj e) (hx n xs)
    · rename_i y hy e
      cases e
      exact va_at.kept h hq
theorem ax_at_moved {u U : State} (hvm : u.vm.Alike U.vm) {i : Nat} {c : Option ax_C} {H : Heap} (h : ax_at D dA b base u i c H) : ax_at D dA b base U i c H := by
  unfold ax_at at h ⊢
  split
  · exact h
  · exact va_X.moved hvm h
  · rename_i x hx
    split at h
    · rename_i e; cases e
    · rename_i n xs e
      exact absurd (Option.some.inj e) (hx n xs)
    · rename_i y hy e
      cases e
      exact h
theorem ax_rep_moved {u U : State} (hvm : u.vm.Alike U.vm) {h : ax_H} {H : Heap} (q : ax_rep D dA b base u h H) : ax_rep D dA b base U h H := ⟨q.1, q.2.1, fun i c hi => ax_at_moved hvm (q.2.2 i c hi)⟩
theorem ax_rep_pos {s : State} {h : ax_H} {H : Heap} (q : ax_rep D dA b base s h H) : 0 < h.1.length := by
  obtain ⟨⟨n, xs, h0⟩, -⟩ := q
  exact (List.getElem?_eq_some_iff.mp h0).1
theorem ax_rep_top {s : State} {h : ax_H} {H : Heap} (q : ax_rep D dA b base s h H) : ax_ad b base h.1.length = H.size := by
  have h1 := ax_rep_pos q
  have h2 := q.2.1
  cases hn : h.1.length with
  | zero => omega
  | succ k => simp only [ax_ad]; omega
theorem ax_rep_set (hb : b < base) {s : State} {h : ax_H} {H H1 : Heap} (q : ax_rep D dA b base s h H) {i u : Nat} {c0 c1 : Option ax_C} (hi : h.1[i]? = some c0) (h9 : ∀ n xs, c0 ≠ some (.inl (9, n, .inl xs))) (hc : ax_at D dA b base s i c1 H1) (hz : H1.size = H.size) (ho : ∀ q : Nat, q ≠ ax_ad b base i → H1[q]? = H[q]?) : ax_rep D dA b base s (h.1.set i c1, u) H1 := by
  obtain ⟨⟨n, xs, h0⟩, h1, h2⟩ := q
  have hl := (List.getElem?_eq_some_iff.mp hi).1
  have hne : i ≠ 0 := by
    intro e
    subst e
    rw [h0] at hi
    exact h9 n xs (Option.some.inj hi).symm
  refine ⟨⟨n, xs, ?_⟩, ?_, fun j c hj => ?_⟩
  · show (h.1.set i c1)[0]? = _
    rw [List.getElem?_set_ne hne]
    exact h0
  · show _ = base + (h.1.set i c1).length
    rw [hz, List.length_set]
    exact h1
  · by_cases hji : j = i
    · subst hji
      have : (h.1.set j c1)[j]? = some c1 := List.getElem?_set_self hl
      cases this.symm.trans hj
      exact hc
    · have : (h.1.set i c1)[j]? = h.1[j]? := List.getElem?_set_ne (Ne.symm hji)
      exact ax_at_kept (h2 j c (this.symm.trans hj)) (ho _ (fun z => hji (ax_ad_inj hb z)))
theorem ax_at_lt (hb : b < base) {s : State} {h : ax_H} {H : Heap} (q : ax_rep D dA b base s h H) {i : Nat} {c : Option ax_C} (hi : h.1[i]? = some c) : ax_ad b base i < H.size := by
  obtain ⟨h0, h1, h2⟩ := q
  have hl := (List.getElem?_eq_some_iff.mp hi).1
  cases i with
  | zero =>
    obtain ⟨n, xs, h0⟩ := h0
    cases h0.symm.trans hi
    obtain ⟨scr, g1, -⟩ := h2 0 _ h0
    exact (Array.getElem?_eq_some_iff.mp g1).1
  | succ k => simp only [ax_ad]; omega
theorem ax_rep_push (hb : b < base) {s : State} {h : ax_H} {H H1 : Heap} (q : ax_rep D dA b base s h H) {u : Nat} {c1 : Option ax_C} (hc : ax_at D dA b base s h.1.length c1 H1) (hz : H1.size = H.size + 1) (ho : ∀ q : Nat, q < H.size → H1[q]? = H[q]?) : ax_rep D dA b base s (h.1 ++ [c1], u) H1 := by
  have hpos := ax_rep_pos q
  have hlt := fun {i : Nat} {c : Option ax_C} (hi : h.1[i]? = some c) => ax_at_lt hb q hi
  obtain ⟨⟨n, xs, h0⟩, h1, h2⟩ := q
  refine ⟨⟨n, xs, ?_⟩, ?_, fun j c hj => ?_⟩
  · show (h.1 ++ [c1])[0]? = _
    rw [List.getElem?_append_left hpos]
    exact h0
  · show _ = base + (h.1 ++ [c1]).length
    rw [List.length_append, List.length_singleton]
    omega
  · by_cases hl : j < h.1.length
    · have e : h.1[j]? = some c := by rw [← List.getElem?_append_left (l₂ := [c1]) hl]; exact hj
      exact ax_at_kept (h2 j c e) (ho _ (hlt e))
    · have hj' : (h.1 ++ [c1])[j]? = some c := hj
      rw [List.getElem?_append_right (by omega)] at hj'
      have hz : j - h.1.length < 1 := (List.getElem?_eq_some_iff.mp hj').1
      have hj0 : j = h.1.length := by omega
      subst hj0
      rw [Nat.sub_self] at hj'
      cases hj'
      exact hc
end AxRep2
end
section
def ax_tys (dA : Nat → ClassId) : List (ClassId × FieldType) := [(dA 0, .int), (dA 1, .long), (dA 2, .char), (dA 3, .object "MakingLimits$Offer"), (dA 4, .object "MakingLimits$Grade")]
section AxEnd
variable (D : va_G) (dA : Nat → ClassId) (b base : Nat)
/-- how a method has ended, for a run that began with the cells h0 -/
def ax_end (s : State) (h0 : ax_H) (r : ax_R) (o : Outcome) (t : State) : Prop :=
  (match r.1 with
    | .inl v => o = .returned (v.map (ax_v b base))
    | .inr E => 1 < r.2.1.length ∧ ∃ ce : Cell, o = .threw (ax_ad b base (r.2.1.length - 1)) ∧ t.heap[ax_ad b base (r.2.1.length - 1)]? = some ce ∧ ce.vm = .none ∧ s.vm.findClass (ax_en E) = some ce.cls) ∧
  ax_rep D dA b base s r.2 t.heap ∧ s.WarmedH t.vm ∧ ∃ L : List Loc, s.sameButNew ({ t with vm := s.vm } : State) L (r.2.1.length - h0.1.length) (r.2.2 - h0.2) ∧ ∀ q ∈ L, base ≤ q.base
def ax_Q (below : List Frame) (s : State) (h0 : ax_H) (r : ax_R) : State → Prop := fun t => ∃ o, t.status = .running ∧ Ended t below o ∧ ax_end D dA b base s h0 r o t
/-- what must hold of a place in a method's walk -/
def ax_P (p : Program) (l : Launch) (e : Env) (R : Room) (s : State) (m : MethodId) (args : Array Value) (below : List Frame) (meth : Method) (c : Code) (nL : Nat) (h0 : ax_H) (r : ax_R) (pc : Nat) (lv : ax_L) (st : List Value) (h : ax_H) : Prop :=
  h.1.length ≤ r.2.1.length ∧ h.2 ≤ r.2.2 ∧ (h0.1.length ≤ h.1.length → h0.2 ≤ h.2 → ∀ (H : Heap) (locs : List Loc) (ls : Array Slot), lv_has ls nL (ax_lm b base lv) → ax_rep D dA b base s h H → (∀ q ∈ locs, base ≤ q.base) →
    W p l e R s m args below meth c H locs (h.1.length - h0.1.length) (h.2 - h0.2) (ax_Q D dA b base below s h0 r) (F0 m pc ls (st.map (ax_v b base))))
end AxEnd
section AxWalk
variable {D : va_G} {dA : Nat → ClassId} {b base : Nat} {p : Program} {l : Launch} {e : Env} {R : Room} {s : State} {m : MethodId} {args : Array Value} {below : List Frame} {meth : Method} {c : Code} {nL : Nat} {bs : ByteArray} {h0 : ax_H} {r : ax_R}
/-- nothing of the heap changes -/
theorem ax_P_same {pc pc' : Nat} {lv lv' : ax_L} {st st' : List Value} {h : ax_H} (k : ax_P D dA b base p l e R s m args below meth c nL h0 r pc' lv' st' h)
    (row : ∀ (H : Heap) (locs : List Loc) (cells slots : Nat) (Q : State → Prop) (ls : Array Slot), lv_has ls nL (ax_lm b base lv) → ax_rep D dA b base s h H → (∀ ls', lv_has ls' nL (ax_lm b base lv') → W p l e R s m args below meth c H locs cells slots Q (F0 m pc' ls' (st'.map (ax_v b base)))) → W p l e R s m args below meth c H locs cells slots Q (F0 m pc ls (st.map (ax_v b base)))) :
    ax_P D dA b base p l e R s m args below meth c nL h0 r pc lv st h :=
  ⟨k.1, k.2.1, fun g1 g2 H locs ls hl hr hq => row H locs _ _ _ ls hl hr (fun ls' hl' => k.2.2 g1 g2 H locs ls' hl' hr hq)⟩
/-- a cell changes -/
theorem ax_P_set (hbb : b < base) {pc pc' : Nat} {lv : ax_L} {st st' : List Value} {h : ax_H} {i : Nat} {c0 c1 : Option ax_C} (hi : h.1[i]? = some c0) (h9 : ∀ n xs, c0 ≠ some (.inl (9, n, .inl xs))) (k : ax_P D dA b base p l e R s m args below meth c nL h0 r pc' lv st' (h.1.set i c1, h.2))
    (row : ∀ (H : Heap) (locs : List Loc) (cells slots : Nat) (Q : State → Prop) (ls : Array Slot), lv_has ls nL (ax_lm b base lv) → ax_rep D dA b base s h H →
      (∀ (H1 : Heap) (j : Nat), ax_at D dA b base s i c1 H1 → H1.size = H.size → (∀ q : Nat, q ≠ ax_ad b base i → H1[q]? = H[q]?) → W p l e R s m args below meth c H1 (locs ++ [⟨ax_ad b base i, j⟩]) cells slots Q (F0 m pc' ls (st'.map (ax_v b base)))) → W p l e R s m args below meth c H locs cells slots Q (F0 m pc ls (st.map (ax_v b base)))) :
    ax_P D dA b base p l e R s m args below meth c nL h0 r pc lv st h := by
  have hlen : (h.1.set i c1).length = h.1.length := List.length_set
  refine ⟨hlen ▸ k.1, k.2.1, fun g1 g2 H locs ls hl hr hq => row H locs _ _ _ ls hl hr (fun H1 j ha hz ho => ?_)⟩
  have hne : i ≠ 0 := by
    intro z
    subst z
    obtain ⟨⟨n, xs, q0⟩, -⟩ := hr
    rw [q0] at hi
    exact h9 n xs (Option.some.inj hi).symm
  have hbase : base ≤ ax_ad b base i := by
    cases i with
    | zero => exact absurd rfl hne
    | succ i => simp only [ax_ad]; omega
  have := k.2.2 (by rw [hlen]; exact g1) g2 H1 (locs ++ [⟨ax_ad b base i, j⟩]) ls hl (ax_rep_set hbb hr hi h9 ha hz ho) (fun q hq1 => by
    rcases List.mem_append.mp hq1 with q1 | q1
    · exact hq q q1
    · rw [List.mem_singleton.mp q1]
      exact hbase)
  rw [hlen] at this
  exact this
/-- a cell is made, of n slots -/
theorem ax_P_push (hbb : b < base) (hRc : r.2.1.length - h0.1.length ≤ R.cells) (hRs : r.2.2 - h0.2 ≤ R.slots) {pc pc' : Nat} {lv : ax_L} {st st' : List Value} {h : ax_H} {n : Nat} {c1 : Option ax_C} (k : ax_P D dA b base p l e R s m args below meth c nL h0 r pc' lv (.ref h.1.length :: st') (h.1 ++ [c1], h.2 + n))
    (row : ∀ (H : Heap) (locs : List Loc) (cells slots : Nat) (Q : State → Prop) (ls : Array Slot), lv_has ls nL (ax_lm b base lv) → ax_rep D dA b base s h H → cells + 1 ≤ R.cells → slots + n ≤ R.slots →
      (∀ H1 : Heap, ax_at D dA b base s h.1.length c1 H1 → H1.size = H.size + 1 → (∀ q : Nat, q < H.size → H1[q]? = H[q]?) → W p l e R s m args below meth c H1 locs (cells + 1) (slots + n) Q (F0 m pc' ls (.ref (ax_ad b base h.1.length) :: st'.map (ax_v b base)))) → W p l e R s m args below meth c H locs cells slots Q (F0 m pc ls (st.map (ax_v b base)))) :
    ax_P D dA b base p l e R s m args below meth c nL h0 r pc lv st h := by
  have hlen : (h.1 ++ [c1]).length = h.1.length + 1 := by simp
  have k1 : h.1.length + 1 ≤ r.2.1.length := hlen ▸ k.1
  have k2 : h.2 + n ≤ r.2.2 := k.2.1
  refine ⟨by omega, by omega, fun g1 g2 H locs ls hl hr hq => row H locs _ _ _ ls hl hr (by omega) (by omega) (fun H1 ha hz ho => ?_)⟩
  have q := k.2.2 (by show h0.1.length ≤ (h.1 ++ [c1]).length; omega) (by show h0.2 ≤ h.2 + n; omega) H1 locs ls hl (ax_rep_push hbb hr ha hz ho) hq
  have e1 : (h.1 ++ [c1]).length - h0.1.length = h.1.length - h0.1.length + 1 := by omega
  have e2 : h.2 + n - h0.2 = h.2 - h0.2 + n := by omega
  have q' : W p l e R s m args below meth c H1 locs ((h.1 ++ [c1]).length - h0.1.length) (h.2 + n - h0.2) (ax_Q D dA b base below s h0 r) (F0 m pc' ls (.ref (ax_ad b base h.1.length) :: st'.map (ax_v b base))) := q
  rw [e1, e2] at q'
  exact q'
end AxWalk
end
section
section AxB
variable {D : va_G} {dA : Nat → ClassId} {b base : Nat} {p : Program} {l : Launch} {e : Env} {R : Room} {s : State} {m : MethodId} {args : Array Value} {below : List Frame} {meth : Method} {c : Code} {nL : Nat} {bs : ByteArray} {h0 : ax_H} {r : ax_R} {M : ax_M}
theorem ax_v_rf (b base : Nat) (o : Option Nat) : ax_v b base (va_rf o) = va_rf (o.map (ax_ad b base)) := by cases o <;> rfl
theorem ax_narrow {b base : Nat} {ty : FieldType} {v : Value} (h : narrow ty v = v) : narrow ty (ax_v b base v) = ax_v b base v := by
  cases v <;> first | exact h | (cases ty <;> rfl)
theorem ax_fits {b base : Nat} {ty : FieldType} {v : Value} (h : fits ty v = true) : fits ty (ax_v b base v) = true := by
  cases v <;> first | exact h | (cases ty <;> first | exact h | cases h)
theorem ax_if2_sound (hx : p.tables.exec = Jvm.exec) (hbs : c.code = bs) {cd : ClassFile.Cond} {o : Int} {pc nx tg : Nat} (hI : ax_It bs nL pc (.if_icmp cd o) nx tg) {lv : ax_L} {st : List Value} {h : ax_H} {x y : Int32} (k1 : ax_cnd cd x y → ax_P D dA b base p l e R s m args below meth c nL h0 r tg lv st h) (k2 : ¬ ax_cnd cd x y → ax_P D dA b base p l e R s m args below meth c nL h0 r nx lv st h) :
    ax_P D dA b base p l e R s m args below meth c nL h0 r pc lv (.int y :: .int x :: st) h := by
  obtain ⟨-, hd0, ho, -, -⟩ := hI
  obtain ⟨hd, rfl⟩ := hd0 rfl
  have ht := ho o rfl
  by_cases hc : ax_cnd cd x y
  · refine ax_P_same (k1 hc) (fun H locs cells slots Q ls hl hr kk => ?_)
    cases cd with
    | eq => exact lv_icmp_eq hx hbs hd ht (fun _ => kk ls hl) (fun q => absurd hc q)
    | ne => exact lv_icmp_ne hx hbs hd ht (fun _ => kk ls hl) (fun q => absurd q hc)
    | lt => exact lv_icmp_lt hx hbs hd ht (fun _ => kk ls hl) (fun q => absurd hc q)
    | ge => exact lv_icmp_ge hx hbs hd ht (fun _ => kk ls hl) (fun q => absurd hc q)
    | gt => exact lv_icmp_gt hx hbs hd ht (fun _ => kk ls hl) (fun q => absurd hc q)
    | le => exact lv_icmp_le hx hbs hd ht (fun _ => kk ls hl) (fun q => absurd hc q)
  · refine ax_P_same (k2 hc) (fun H locs cells slots Q ls hl hr kk => ?_)
    cases cd with
    | eq => exact lv_icmp_eq hx hbs hd ht (fun q => absurd q hc) (fun _ => kk ls hl)
    | ne => exact lv_icmp_ne hx hbs hd ht (fun q => absurd q hc) (fun _ => kk ls hl)
    | lt => exact lv_icmp_lt hx hbs hd ht (fun q => absurd q hc) (fun _ => kk ls hl)
    | ge => exact lv_icmp_ge hx hbs hd ht (fun q => absurd q hc) (fun _ => kk ls hl)
    | gt => exact lv_icmp_gt hx hbs hd ht (fun q => absurd q hc) (fun _ => kk ls hl)
    | le => exact lv_icmp_le hx hbs hd ht (fun q => absurd q hc) (fun _ => kk ls hl)
theorem ax_if1_sound (hx : p.tables.exec = Jvm.exec) (hbs : c.code = bs) {cd : ClassFile.Cond} {o : Int} {pc nx tg : Nat} (hI : ax_It bs nL pc (.ifCond cd o) nx tg) {lv : ax_L} {st : List Value} {h : ax_H} {x : Int32} (k1 : ax_cnd cd x 0 → ax_P D dA b base p l e R s m args below meth c nL h0 r tg lv st h) (k2 : ¬ ax_cnd cd x 0 → ax_P D dA b base p l e R s m args below meth c nL h0 r nx lv st h) :
    ax_P D dA b base p l e R s m args below meth c nL h0 r pc lv (.int x :: st) h := by
  obtain ⟨-, hd0, ho, -, -⟩ := hI
  obtain ⟨hd, rfl⟩ := hd0 rfl
  have ht := ho o rfl
  by_cases hc : ax_cnd cd x 0
  · refine ax_P_same (k1 hc) (fun H locs cells slots Q ls hl hr kk => ?_)
    cases cd with
    | eq => exact lv_if_eq hx hbs hd ht (fun _ => kk ls hl) (fun q => absurd hc q)
    | ne => exact lv_if_ne hx hbs hd ht (fun _ => kk ls hl) (fun q => absurd q hc)
    | lt => exact lv_if_lt hx hbs hd ht (fun _ => kk ls hl) (fun q => absurd hc q)
    | ge => exact lv_if_ge hx hbs hd ht (fun _ => kk ls hl) (fun q => absurd hc q)
    | gt => exact lv_if_gt hx hbs hd ht (fun _ => kk ls hl) (fun q => absurd hc q)
    | le => exact lv_if_le hx hbs hd ht (fun _ => kk ls hl) (fun q => absurd hc q)
  · refine ax_P_same (k2 hc) (fun H locs cells slots Q ls hl hr kk => ?_)
    cases cd with
    | eq => exact lv_if_eq hx hbs hd ht (fun q => absurd q hc) (fun _ => kk ls hl)
    | ne => exact lv_if_ne hx hbs hd ht (fun q => absurd q hc) (fun _ => kk ls hl)
    | lt => exact lv_if_lt hx hbs hd ht (fun q => absurd q hc) (fun _ => kk ls hl)
    | ge => exact lv_if_ge hx hbs hd ht (fun q => absurd q hc) (fun _ => kk ls hl)
    | gt => exact lv_if_gt hx hbs hd ht (fun q => absurd q hc) (fun _ => kk ls hl)
    | le => exact lv_if_le hx hbs hd ht (fun q => absurd q hc) (fun _ => kk ls hl)
theorem ax_to_eq {pc : Nat} {o : Int} (h : 0 ≤ (pc : Int) + o) : (pc : Int) + o = ((ax_to pc o : Nat) : Int) := by
  unfold ax_to
  omega
theorem ax_lsw_nn {pc : Nat} {x d : Int} (hd : 0 ≤ (pc : Int) + d) : ∀ ps : List (Int × Int), ps.all (fun q => decide (0 ≤ (pc : Int) + q.2)) = true → 0 ≤ (pc : Int) + Op.lookupswitch.offset ps d x := by
  intro ps
  induction ps with
  | nil => intro _; exact hd
  | cons q ps ih =>
    intro h
    simp only [List.all_cons, Bool.and_eq_true, decide_eq_true_eq] at h
    obtain ⟨k, o⟩ := q
    rw [Op.lookupswitch.offset_cons]
    split
    · exact h.1
    · exact ih h.2
/-- the instructions that neither call nor end nor throw -/
def ax_mid : Instr → Bool
  | .invokestatic _ => false
  | .invokevirtual _ => false
  | .invokespecial _ => false
  | .new _ => false
  | .ireturn => false
  | .lreturn => false
  | .areturn => false
  | .return_ => false
  | _ => true
theorem ax_kind {k : Nat} (hK : va_K D classes (ax_tys dA) s) {ty : FieldType} (hk : (ax_tys dA)[k]? = some (dA k, ty)) : ArrOfT s (dA k) ty ∧ va_RA s (dA k) ty := hK.2 k _ hk
theorem ax_arr_at {i k n : Nat} {z : (Nat → Int32) ⊕ (Nat → Int64) ⊕ (Nat → UInt32) ⊕ (Nat → UInt64) ⊕ (Nat → Option Nat)} {H : Heap} (h : ax_at D dA b base s i (some (.inl (k, n, z))) H) (hk : k ≠ 9) : va_at D classes (ax_ad b base i, .inl (dA k, n, ax_z b base z)) H := by
  unfold ax_at at h
  split at h
  · rename_i e; cases e
  · rename_i e; cases e; exact absurd rfl hk
  · rename_i y hy e; cases e; exact h
theorem ax_arr_of {i k n : Nat} {z : (Nat → Int32) ⊕ (Nat → Int64) ⊕ (Nat → UInt32) ⊕ (Nat → UInt64) ⊕ (Nat → Option Nat)} {H : Heap} (h : va_at D classes (ax_ad b base i, .inl (dA k, n, ax_z b base z)) H) (hk : k ≠ 9) : ax_at D dA b base s i (some (.inl (k, n, z))) H := by
  unfold ax_at
  split
  · rename_i e; cases e
  · rename_i e; cases e; exact absurd rfl hk
  · rename_i y hy e; cases e; exact h
theorem ax_mid_sound (hbb : b < base) (hx : p.tables.exec = Jvm.exec) (hbs : c.code = bs) (hown : s.vm.findClass (ax_cn M.1) = some m.cls) (hini : M.2.2.2.2 = true → meth.name = "<init>") (hG : ∀ w ∈ lw_tbl, ax_gw w = true → w.before args s = true) (hK : va_K D classes (ax_tys dA) s) (hRc : r.2.1.length - h0.1.length ≤ R.cells) (hRs : r.2.2 - h0.2 ≤ R.slots)
    {C : Nat → List Value → ax_H → ax_R → Prop} {i : Instr} (hm : ax_mid i = true) {pc nx tg : Nat} (hI : ax_It bs nL pc i nx tg) {lv : ax_L} {st : List Value} {h : ax_H} (hb : ax_b C M i pc nx tg lv st h r (ax_P D dA b base p l e R s m args below meth c nL h0 r)) :
    ax_P D dA b base p l e R s m args below meth c nL h0 r pc lv st h := by
  have hW : ∀ {w : Jvm.Cond}, ax_w w → w.before args s = true := fun hw => hG _ hw.1 hw.2
  have hI' := hI
  obtain ⟨hdd, hd0, ho, ht, hsw⟩ := hI
  cases i with
  | ldc ix =>
    obtain ⟨hd, rfl⟩ := hd0 rfl
    obtain ⟨v, hv, k⟩ := hb
    exact ax_P_same k (fun H locs cells slots Q ls hl hr kk => lv_ldc hx hbs hown (hW (ax_tI_ok _ (ax_lookup2_in hv))) hd (kk ls hl))
  | ldc2_w ix =>
    obtain ⟨hd, rfl⟩ := hd0 rfl
    obtain ⟨v, hv, k⟩ := hb
    exact ax_P_same k (fun H locs cells slots Q ls hl hr kk => lv_ldc2 hx hbs hown (hW (ax_tL_ok _ (ax_lookup2_in hv))) hd (kk ls hl))
  | idiv =>
    obtain ⟨hd, rfl⟩ := hd0 rfl
    obtain ⟨x, y, st', rfl, hy, k⟩ := hb
    exact ax_P_same k (fun H locs cells slots Q ls hl hr kk => lv_idiv hx hbs hd hy (kk ls hl))
  | ldiv =>
    obtain ⟨hd, rfl⟩ := hd0 rfl
    obtain ⟨x, y, st', rfl, hy, k⟩ := hb
    exact ax_P_same k (fun H locs cells slots Q ls hl hr kk => lv_ldiv hx hbs hd hy (kk ls hl))
  | lrem =>
    obtain ⟨hd, rfl⟩ := hd0 rfl
    obtain ⟨x, y, st', rfl, hy, k⟩ := hb
    exact ax_P_same k (fun H locs cells slots Q ls hl hr kk => lv_lrem hx hbs hd hy (kk ls hl))
  | if_icmp cd o =>
    obtain ⟨x, y, st', rfl, k1, k2⟩ := hb
    exact ax_if2_sound hx hbs hI' k1 k2
  | ifCond cd o =>
    obtain ⟨x, st', rfl, k1, k2⟩ := hb
    exact ax_if1_sound hx hbs hI' k1 k2
  | ifnull o =>
    obtain ⟨hd, rfl⟩ := hd0 rfl
    obtain ⟨v, st', rfl, k⟩ := hb
    rcases k with ⟨rfl, k⟩ | ⟨⟨a, rfl⟩, k⟩
    · exact ax_P_same k (fun H locs cells slots Q ls hl hr kk => lv_ifnullN hx hbs hd (ho o rfl) (kk ls hl))
    · exact ax_P_same k (fun H locs cells slots Q ls hl hr kk => lv_ifnull hx hbs hd (kk ls hl))
  | ifnonnull o =>
    obtain ⟨hd, rfl⟩ := hd0 rfl
    obtain ⟨v, st', rfl, k⟩ := hb
    rcases k with ⟨rfl, k⟩ | ⟨⟨a, rfl⟩, k⟩
    · exact ax_P_same k (fun H locs cells slots Q ls hl hr kk => lv_ifnonnullN hx hbs hd (kk ls hl))
    · exact ax_P_same k (fun H locs cells slots Q ls hl hr kk => lv_ifnonnull hx hbs hd (ho o rfl) (kk ls hl))
  | tableswitch d lo hi offs =>
    obtain ⟨x, st', t, rfl, hts, k⟩ := hb
    simp only [ax_swok, Bool.and_eq_true, decide_eq_true_eq, List.all_eq_true] at hsw
    unfold ax_tsw at hts
    split at hts
    · rename_i hout
      cases hts
      exact ax_P_same k (fun H locs cells slots Q ls hl hr kk => lv_tableOut hx hbs hdd hout (ax_to_eq hsw.1) (kk ls hl))
    · rename_i hinn
      obtain ⟨o, ho1, rfl⟩ := Option.map_eq_some_iff.mp hts
      have hmem : o ∈ offs.toList := Array.mem_toList_iff.mpr (Array.mem_of_getElem? ho1)
      exact ax_P_same k (fun H locs cells slots Q ls hl hr kk => lv_tableIn hx hbs hdd (fun q => hinn (Or.inl q)) (fun q => hinn (Or.inr q)) ho1 (ax_to_eq (hsw.2 o hmem)) (kk ls hl))
  | lookupswitch d ps =>
    obtain ⟨x, st', rfl, k⟩ := hb
    simp only [ax_swok, Bool.and_eq_true, decide_eq_true_eq] at hsw
    exact ax_P_same k (fun H locs cells slots Q ls hl hr kk => lv_lookup hx hbs hdd hsw.2 rfl (ax_to_eq (ax_lsw_nn hsw.1.1 _ hsw.1.2)) (kk ls hl))
  | getfield ix =>
    obtain ⟨hd, rfl⟩ := hd0 rfl
    obtain ⟨a, st', ci, k, fs, v, rfl, hf, hc, hv, kk0⟩ := hb
    obtain ⟨C0, T, N, hcl, hkN, hlk⟩ := ax_tF_ok _ (ax_lookup2_in hf)
    refine ax_P_same kk0 (fun H locs cells slots Q ls hl hr kk => ?_)
    exact ax_getR hx hbs (fun w hw => hW (ax_cls_ok ci _ hcl w hw)) hown hK (hr.2.2 a _ hc) hcl k hkN (hlk.imp (fun q => hW q) (fun ⟨host, q⟩ => ⟨host, hW q⟩)) (by rw [List.getElem?_map, hv]; rfl) hd (kk ls hl)
  | putfield ix =>
    obtain ⟨hd, rfl⟩ := hd0 rfl
    obtain ⟨a, v, st', ci, k, fs, rfl, hf, hc, hlt, hfin, hn, hfit, kk0⟩ := hb
    obtain ⟨C0, T, N, hcl, hkN, hlk⟩ := ax_tF_ok _ (ax_lookup2_in hf)
    refine ax_P_set hbb hc (fun n xs q => by cases q) kk0 (fun H locs cells slots Q ls hl hr kk => ?_)
    refine ax_putR hx hbs (fun w hw => hW (ax_cls_ok ci _ hcl w hw)) (ax_ty ci) (ax_ty_ok ci _ hcl) (ax_nm_ok ci _ hcl) hown hK (hr.2.2 a _ hc) hcl k hkN ?_ (ax_narrow hn) (ax_fits hfit) (by rw [List.length_map]; exact hlt) hd (fun H1 j ha hz hq => kk H1 j ?_ hz hq)
    · rcases hfin with hfin | ⟨hi1, hi2⟩
      · by_cases hF : (T k).2.2.2 = true
        · exact absurd (ax_fin_ok ci _ hcl k hkN ▸ hfin) (by rw [hF]; decide)
        · exact Or.inl ⟨by simpa using hF, hlk.imp (fun q => hW q) (fun ⟨host, q⟩ => ⟨host, hW q⟩)⟩
      · by_cases hF : (T k).2.2.2 = true
        · subst hi2
          exact Or.inr ⟨hF, hini hi1, ax_own_ok _ _ hcl k hkN, hW (ax_tFown_ok _ (ax_lookup2_in hf) rfl hcl)⟩
        · exact Or.inl ⟨by simpa using hF, hlk.imp (fun q => hW q) (fun ⟨host, q⟩ => ⟨host, hW q⟩)⟩
    · show va_at D classes (ax_ad b base a, .inr (ci, (fs.set k v).map (ax_v b base))) H1
      rw [List.map_set]
      exact ha
  | iaload =>
    obtain ⟨hd, rfl⟩ := hd0 rfl
    obtain ⟨a, i, st', k, n, f, rfl, hc, hk, hin, kk0⟩ := hb
    refine ax_P_same kk0 (fun H locs cells slots Q ls hl hr kk => ?_)
    rcases hk with rfl | rfl
    · exact va_iald hx hbs hK (ax_one (ax_arr_at (hr.2.2 a _ hc) (by decide))) 0 0 rfl rfl hin hd (kk ls hl)
    · obtain ⟨scr, h1, h2, h3, h4, h5⟩ : va_X (ax_ad b base a) n f s H := hr.2.2 a _ hc
      have hlt : i.toNatClampNeg < n := Nat.not_le.mp fun q => hin (Or.inr q)
      exact W.iald (v := .int (f i.toNatClampNeg)) hx hbs h1 h2 h3 (by rw [h4]; exact hin) (h5 _ hlt) rfl rfl hd (kk ls hl)
  | caload =>
    obtain ⟨hd, rfl⟩ := hd0 rfl
    obtain ⟨a, i, st', n, f, rfl, hc, hin, kk0⟩ := hb
    exact ax_P_same kk0 (fun H locs cells slots Q ls hl hr kk => va_cald hx hbs hK (ax_one (ax_arr_at (hr.2.2 a _ hc) (by decide))) 0 2 rfl rfl hin hd (kk ls hl))
  | laload =>
    obtain ⟨hd, rfl⟩ := hd0 rfl
    obtain ⟨a, i, st', n, f, rfl, hc, hin, kk0⟩ := hb
    exact ax_P_same kk0 (fun H locs cells slots Q ls hl hr kk => va_lald hx hbs hK (ax_one (ax_arr_at (hr.2.2 a _ hc) (by decide))) 0 1 rfl rfl hin hd (kk ls hl))
  | aaload =>
    obtain ⟨hd, rfl⟩ := hd0 rfl
    obtain ⟨a, i, st', k, n, f, rfl, hc, hk, hin, kk0⟩ := hb
    refine ax_P_same kk0 (fun H locs cells slots Q ls hl hr kk => ?_)
    have kk1 := kk ls hl
    rw [List.map_cons, ax_v_rf] at kk1
    rcases hk with rfl | rfl
    · exact va_aldq hx hbs hK (ax_one (ax_arr_at (hr.2.2 a _ hc) (by decide))) 0 3 rfl rfl hin hd kk1
    · exact va_aldq hx hbs hK (ax_one (ax_arr_at (hr.2.2 a _ hc) (by decide))) 0 4 rfl rfl hin hd kk1
  | iastore =>
    obtain ⟨hd, rfl⟩ := hd0 rfl
    obtain ⟨a, i, x, st', n, f, rfl, hc, hin, kk0⟩ := hb
    refine ax_P_set hbb hc (fun n xs q => by cases q) kk0 (fun H locs cells slots Q ls hl hr kk => ?_)
    exact ax_iastR (D := D) (cl := classes) hx hbs (ax_kind hK (k := 0) rfl).1 (hr.2.2 a _ hc) hin hd (fun H1 j ha hz hq => kk H1 j ha hz hq)
  | castore =>
    obtain ⟨hd, rfl⟩ := hd0 rfl
    obtain ⟨a, i, x, st', n, f, rfl, hc, hin, kk0⟩ := hb
    refine ax_P_set hbb hc (fun n xs q => by cases q) kk0 (fun H locs cells slots Q ls hl hr kk => ?_)
    exact ax_castR (D := D) (cl := classes) hx hbs (ax_kind hK (k := 2) rfl).1 (hr.2.2 a _ hc) hin hd (fun H1 j ha hz hq => kk H1 j ha hz hq)
  | lastore =>
    obtain ⟨hd, rfl⟩ := hd0 rfl
    obtain ⟨a, i, x, st', n, f, rfl, hc, hin, kk0⟩ := hb
    refine ax_P_set hbb hc (fun n xs q => by cases q) kk0 (fun H locs cells slots Q ls hl hr kk => ?_)
    exact ax_lastR (D := D) (cl := classes) hx hbs (ax_kind hK (k := 1) rfl).1 (hr.2.2 a _ hc) hin hd (fun H1 j ha hz hq => kk H1 j ha hz hq)
  | aastore =>
    obtain ⟨hd, rfl⟩ := hd0 rfl
    obtain ⟨a, i, o, st', k, n, f, rfl, hc, hk, hin, hv, kk0⟩ := hb
    refine ax_P_set hbb hc (fun n xs q => by cases q) kk0 (fun H locs cells slots Q ls hl hr kk => ?_)
    have e1 : ∀ v : Option Nat, (fun j => (va_up f i.toNatClampNeg v j).map (ax_ad b base)) = va_up (fun j => (f j).map (ax_ad b base)) i.toNatClampNeg (v.map (ax_ad b base)) := by
      intro v
      funext j
      unfold va_up
      split <;> rfl
    cases o with
    | none =>
      rcases hk with rfl | rfl
      · refine ax_aastNR (D := D) (cl := classes) hx hbs (ax_kind hK (k := 3) rfl).1 (hr.2.2 a _ hc) hin hd (fun H1 j ha hz hq => kk H1 j ?_ hz hq)
        show va_at D classes (_, .inl (dA 3, n, .inr (.inr (.inr (.inr (fun j => (va_up f i.toNatClampNeg none j).map (ax_ad b base))))))) H1
        rw [e1]
        exact ha
      · refine ax_aastNR (D := D) (cl := classes) hx hbs (ax_kind hK (k := 4) rfl).1 (hr.2.2 a _ hc) hin hd (fun H1 j ha hz hq => kk H1 j ?_ hz hq)
        show va_at D classes (_, .inl (dA 4, n, .inr (.inr (.inr (.inr (fun j => (va_up f i.toNatClampNeg none j).map (ax_ad b base))))))) H1
        rw [e1]
        exact ha
    | some v =>
      obtain ⟨fs, hv⟩ := hv v rfl
      rcases hk with rfl | rfl
      · refine ax_aastR (D := D) (cl := classes) hx hbs hK (ax_kind hK (k := 3) rfl).2 (hr.2.2 a _ hc) (hr.2.2 v _ hv) rfl hin hd (fun H1 j ha hz hq => kk H1 j ?_ hz hq)
        show va_at D classes (_, .inl (dA 3, n, .inr (.inr (.inr (.inr (fun j => (va_up f i.toNatClampNeg (some v) j).map (ax_ad b base))))))) H1
        rw [e1]
        exact ha
      · refine ax_aastR (D := D) (cl := classes) hx hbs hK (ax_kind hK (k := 4) rfl).2 (hr.2.2 a _ hc) (hr.2.2 v _ hv) rfl hin hd (fun H1 j ha hz hq => kk H1 j ?_ hz hq)
        show va_at D classes (_, .inl (dA 4, n, .inr (.inr (.inr (.inr (fun j => (va_up f i.toNatClampNeg (some v) j).map (ax_ad b base))))))) H1
        rw [e1]
        exact ha
  | arraylength =>
    obtain ⟨hd, rfl⟩ := hd0 rfl
    obtain ⟨a, st', k, n, z, rfl, hc, hk, kk0⟩ := hb
    refine ax_P_same kk0 (fun H locs cells slots Q ls hl hr kk => ?_)
    have hcase : k = 0 ∨ k = 1 ∨ k = 2 ∨ k = 3 ∨ k = 4 ∨ (k = 9 ∧ a = 0) := by
      rcases hk with hk | hk
      · rcases k with _ | _ | _ | _ | _ | k
        · exact Or.inl rfl
        · exact Or.inr (Or.inl rfl)
        · exact Or.inr (Or.inr (Or.inl rfl))
        · exact Or.inr (Or.inr (Or.inr (Or.inl rfl)))
        · exact Or.inr (Or.inr (Or.inr (Or.inr (Or.inl rfl))))
        · exact absurd hk (by omega)
      · exact Or.inr (Or.inr (Or.inr (Or.inr (Or.inr hk))))
    rcases hcase with rfl | rfl | rfl | rfl | rfl | ⟨rfl, rfl⟩
    · exact va_alen hx hbs hK (ax_one (ax_arr_at (hr.2.2 a _ hc) (by decide))) 0 0 rfl rfl rfl hd (kk ls hl)
    · exact va_alen hx hbs hK (ax_one (ax_arr_at (hr.2.2 a _ hc) (by decide))) 0 1 rfl rfl rfl hd (kk ls hl)
    · exact va_alen hx hbs hK (ax_one (ax_arr_at (hr.2.2 a _ hc) (by decide))) 0 2 rfl rfl rfl hd (kk ls hl)
    · exact va_alen hx hbs hK (ax_one (ax_arr_at (hr.2.2 a _ hc) (by decide))) 0 3 rfl rfl rfl hd (kk ls hl)
    · exact va_alen hx hbs hK (ax_one (ax_arr_at (hr.2.2 a _ hc) (by decide))) 0 4 rfl rfl rfl hd (kk ls hl)
    · obtain ⟨⟨n0, xs0, h00⟩, -⟩ := id hr
      cases h00.symm.trans hc
      obtain ⟨scr, h1, h2, h3, h4, h5⟩ : va_X (ax_ad b base 0) n xs0 s H := hr.2.2 0 _ h00
      exact W.alen (n := nI n) hx hbs h1 h2 (by rw [h4]; rfl) rfl rfl hd (kk ls hl)
  | newarray t =>
    obtain ⟨hd, rfl⟩ := hd0 rfl
    obtain ⟨n, st', k, rfl, hk, hn, hm1, kk0⟩ := hb
    refine ax_P_push hbb hRc hRs kk0 (fun H locs cells slots Q ls hl hr hc1 hs1 kk => ?_)
    have htop := ax_rep_top hr
    rw [htop] at kk
    cases t <;> simp [ax_ak] at hk <;> subst hk
    · exact ax_newaR (D := D) (cl := classes) hx hbs (t := .char) (hW ax_arC) (ax_kind hK (k := 2) rfl).2 (z := (n.toNatClampNeg, .inl (fun _ => 0))) rfl hn (by show n.toNatClampNeg * 2 ≤ _; omega) hc1 hs1 hd (fun H1 ha hz hq => kk H1 (ax_arr_of (by rw [htop]; exact ha) (by decide)) hz hq)
    · exact ax_newaR (D := D) (cl := classes) hx hbs (t := .int) (hW ax_arI) (ax_kind hK (k := 0) rfl).2 (z := (n.toNatClampNeg, .inl (fun _ => 0))) rfl hn (by show n.toNatClampNeg * 4 ≤ _; omega) hc1 hs1 hd (fun H1 ha hz hq => kk H1 (ax_arr_of (by rw [htop]; exact ha) (by decide)) hz hq)
    · exact ax_newaR (D := D) (cl := classes) hx hbs (t := .long) (hW ax_arJ) (ax_kind hK (k := 1) rfl).2 (z := (n.toNatClampNeg, .inr (.inl (fun _ => 0)))) rfl hn (by show n.toNatClampNeg * 8 ≤ _; omega) hc1 hs1 hd (fun H1 ha hz hq => kk H1 (ax_arr_of (by rw [htop]; exact ha) (by decide)) hz hq)
  | anewarray ix =>
    obtain ⟨hd, rfl⟩ := hd0 rfl
    obtain ⟨n, st', k, rfl, hk, hn, hm1, kk0⟩ := hb
    refine ax_P_push hbb hRc hRs kk0 (fun H locs cells slots Q ls hl hr hc1 hs1 kk => ?_)
    have htop := ax_rep_top hr
    rw [htop] at kk
    rcases ax_tR_ok _ (ax_lookup2_in hk) with ⟨rfl, hk1⟩ | ⟨rfl, hk1⟩
    · obtain ⟨kA, comp, -, -, -, hnm⟩ := (ax_kind hK (k := 3) rfl).2
      exact ax_newqR (D := D) (cl := classes) hx hbs hown (hW hk1) (hW ax_ovO) hnm hn (by omega) hc1 hs1 hd (fun H1 ha hz hq => kk H1 (ax_arr_of (by rw [htop]; exact ha) (by decide)) hz hq)
    · obtain ⟨kA, comp, -, -, -, hnm⟩ := (ax_kind hK (k := 4) rfl).2
      exact ax_newqR (D := D) (cl := classes) hx hbs hown (hW hk1) (hW ax_ovG) hnm hn (by omega) hc1 hs1 hd (fun H1 ha hz hq => kk H1 (ax_arr_of (by rw [htop]; exact ha) (by decide)) hz hq)
  | _ => first | exact hb.elim | cases hm
end AxB
end
section
/-! the methods' instructions, and what their calls need, are the Statement's -/
def ax_notMH (y : MethodName) : Prop := y.cls ≠ "java/lang/invoke/MethodHandle" ∧ y.cls ≠ "java/lang/invoke/VarHandle"
def ax_callee (own ix : Nat) (g : Nat → Nat → MethodName → Nat → Nat → Nat → Bool) : Bool := match ax_tM.lookup (own, ix) with
  | some q => match ax_mm[q.1]? with
    | some z => g q.1 q.2 z.1 z.2.2.1 z.2.2.2.1 z.2.2.2.2
    | none => false
  | none => false
def ax_link (own ix : Nat) (y : MethodName) : Bool := decide (ax_w (.methodLink (ax_cn own) ix y)) || decide (ax_w (.methodLinkNest (ax_cn own) ix y "MakingLimits"))
def ax_fit (fr lo mi nL f l : Nat) (y : MethodName) : Bool := decide (y ≠ x) && decide (f + 1 ≤ fr) && decide (8 + (nL + 11) + l ≤ lo) && decide (y.cls ≠ "java/lang/invoke/MethodHandle") && decide (y.cls ≠ "java/lang/invoke/VarHandle")
def ax_okS (fr lo own ix : Nat) : Bool := ax_callee own ix (fun mi n y nL f l => ax_fit fr lo mi nL f l y && ax_link own ix y && decide (ax_w (.static y)) && decide (ax_w (.initialized y.cls)) && decide ((parseMethodDescriptor y.desc).map (fun d => d.parameters.length) = some n))
def ax_okV (fr lo own ix : Nat) : Bool := ax_callee own ix (fun mi n y nL f l => ax_fit fr lo mi nL f l y && ax_link own ix y && decide (ax_w (.instanceMethod y)) && decide (ax_w (.selects y.cls y y)) && decide ((parseMethodDescriptor y.desc).map (fun d => d.parameters.length + 1) = some n) && decide ((classes[ax_rc mi]?).map (fun q => q.1) = some y.cls))
def ax_okN (fr lo own ix : Nat) : Bool := ax_callee own ix (fun mi n y nL f l => ax_fit fr lo mi nL f l y && ax_link own ix y && decide (ax_w (.instanceMethod y)) && decide (y.name = "<init>") && decide ((parseMethodDescriptor y.desc).map (fun d => d.parameters.length + 1) = some n))
def ax_okC (fr lo own : Nat) : Instr → Bool
  | .invokestatic ix => ax_okS fr lo own ix
  | .invokevirtual ix => ax_okV fr lo own ix
  | .invokespecial ix => if (own, ix) ∈ ax_tO then decide (1 ≤ fr) && decide (20 ≤ lo) else if (own, ix) ∈ ax_tX.map (fun q => (q.1.1, q.2.2)) then true else ax_okN fr lo own ix
  | .new ix => if (own, ix) ∈ ax_tX.map (fun q => q.1) then decide (6 ≤ fr) && decide (82 ≤ lo) else true
  | _ => true
def ax_okM (M : ax_M) (q : MethodName × ByteArray × Nat × Nat × Nat) : Bool :=
  M.2.2.1.all (fun e => ax_okC q.2.2.2.1 q.2.2.2.2 M.1 e.2.1) && plainFor q.1 && (!M.2.2.2.2 || decide (q.1.name = "<init>")) && decide (q.1.cls = ax_cn M.1) &&
    (decide (q.1 = x) || (decide (M.2.2.2.1 = []) && decide (ax_w (.code q.1 q.2.1 q.2.2.1 M.2.1))) || decide (ax_w (.codeWith q.1 q.2.1 q.2.2.1 M.2.1 M.2.2.2.1)))
theorem ax_mt_ok (mi : Nat) (M : ax_M) (q : MethodName × ByteArray × Nat × Nat × Nat) (hpr : ax_pr[mi]? = some M) (hmm : ax_mm[mi]? = some q) : M.2.2.1.all (ax_okI q.2.1 q.2.2.1) = true ∧ plainFor q.1 = true ∧ (M.2.2.2.2 = true → q.1.name = "<init>") ∧ q.1.cls = ax_cn M.1 ∧ (q.1 = x ∨ (M.2.2.2.1 = [] ∧ ax_w (.code q.1 q.2.1 q.2.2.1 M.2.1)) ∨ ax_w (.codeWith q.1 q.2.1 q.2.2.1 M.2.1 M.2.2.2.1)) ∧ M.2.2.1.all (fun e => ax_okC q.2.2.2.1 q.2.2.2.2 M.1 e.2.1) = true := sorry
end
section
/-! what the throwing of an exception asks of Throwable's statics, which lie below base -/
def ax_tw1 (base : Nat) (C n d : String) (s : State) : Prop :=
  (Jvm.Cond.laysStatic C n d).before #[] s = true ∧ (Jvm.Cond.isRef (.static C n d)).before #[] s = true ∧ ∀ c k i f a, s.fieldFound? C n d = some (c, k, i, f) → k.statics = some a → a < base
def ax_tws (base : Nat) (s : State) : Prop := ax_tw1 base Bundle.tN "UNASSIGNED_STACK" Bundle.steD s ∧ ax_tw1 base Bundle.tN "SUPPRESSED_SENTINEL" Bundle.listD s
theorem ax_tw1_keep {base : Nat} {C n d : String} {s U : State} (hal : s.vm.Alike U.vm) (hq : ∀ q : Nat, q < base → U.heap[q]? = s.heap[q]?) (h : ax_tw1 base C n d s) : ax_tw1 base C n d U := by
  obtain ⟨hl, hr, hb⟩ := h
  obtain ⟨c, k, i, f, a, cell, hc, hi, hst, ha, hcell, hs, hcls, hlt, hty⟩ := Cond.laysStatic_spec hl
  obtain ⟨k', hi', he⟩ := State.fieldFound?_setVm hal hi
  have hi' : U.fieldFound? C n d = some (c, k', i, f) := hi'
  have ha' : k'.statics = some a := by rw [he]; exact ha
  have hty' : k'.staticTypes[f.slot]? = some f.type := by rw [he]; exact hty
  have hab := hb c k i f a hi ha
  have hcell' : U.heap[a]? = some cell := by rw [hq a hab]; exact hcell
  have hc' : U.vm.findClass C = some c := by rw [hal.findClass]; exact hc
  refine ⟨?_, ?_, fun c2 k2 i2 f2 a2 h1 h2 => ?_⟩
  · simp [Cond.before, Cond.holds, Cond.value, hc', hi', ha', hcell', hst, hs, hcls, hlt, hty']
  · cases hv : (Term.static C n d).eval #[] s none [] s with
    | none => simp [Cond.before, Cond.holds, Cond.value, hv] at hr
    | some w =>
      obtain ⟨-, a1, cell1, e1, e2, -, e3⟩ := Term.static_spec hi hv
      cases ha.symm.trans e1
      cases hcell.symm.trans e2
      have hv' : (Term.static C n d).eval #[] U none [] U = some w := by
        simp [Term.eval, State.fieldNamed?, hi', hst, ha', hcell', hs, e3]
      simp only [Cond.before, Cond.holds, Cond.value, hv] at hr
      simp only [Cond.before, Cond.holds, Cond.value, hv']
      exact hr
  · cases hi'.symm.trans h1
    cases ha'.symm.trans h2
    exact hab
theorem ax_tws_keep {base : Nat} {s U : State} (hal : s.vm.Alike U.vm) (hq : ∀ q : Nat, q < base → U.heap[q]? = s.heap[q]?) (h : ax_tws base s) : ax_tws base U := ⟨ax_tw1_keep hal hq h.1, ax_tw1_keep hal hq h.2⟩
/-- what lies below base is as it was, where only cells from base on were written -/
theorem ax_same_low {base : Nat} {s t : State} {L : List Loc} {k n : Nat} (h : s.sameButNew t L k n) (hL : ∀ q ∈ L, base ≤ q.base) (hs : base ≤ s.heap.size) : ∀ q : Nat, q < base → t.heap[q]? = s.heap[q]? := by
  obtain ⟨-, h1, -, -, -, h2⟩ := h
  intro q hq
  have hlt : q < s.heap.size := by omega
  obtain ⟨c, hc⟩ : ∃ c, s.heap[q]? = some c := ⟨s.heap[q], Array.getElem?_eq_getElem hlt⟩
  obtain ⟨c', e1, e2, e3, e4⟩ := h2 q c hc
  rw [e1, hc]
  have hsl : c'.slots = c.slots := by
    apply Array.ext_getElem?
    intro i
    exact e4 i (fun z => absurd (hL _ z) (by show ¬ base ≤ q; omega))
  rw [e2, hsl]
section AxLow
variable {base : Nat} {p : Program} {l : Launch} {e : Env} {R : Room} {s : State} {m : MethodId} {args : Array Value} {below : List Frame} {meth : Method} {c : Code} {T : State} {locs : List Loc} {cells slots : Nat}
theorem ax_low (X : Stand p l e R s m args below meth c T locs cells slots) (hlo : ∀ q ∈ locs, base ≤ q.base) (hs : base ≤ s.heap.size) : ∀ q : Nat, q < base → T.heap[q]? = s.heap[q]? := fun q hq => ax_same_low X.same hlo hs q hq
/-- the walk as seen from where it stands now: nothing is written or made yet -/
theorem ax_reroot (X : Stand p l e R s m args below meth c T locs cells slots) {R' : Room} (hf : R'.frames ≤ R.frames) (hl : R'.locals ≤ R.locals) (hc : cells + R'.cells ≤ R.cells) (hs : slots + R'.slots ≤ R.slots) : Stand p l e R' (T.setFrames (.invoking m args :: below)) m args below meth c T [] 0 0 := by
  obtain ⟨g₀, hfr⟩ := X.frames_eq
  have hcur : T.cur < T.threads.size := State.cur_lt_of_frames hfr
  have hF : (T.setFrames (.invoking m args :: below)).frames = .invoking m args :: below := State.frames_setFrames _ hcur
  obtain ⟨th, hth, -⟩ := State.frames_cons hfr
  obtain ⟨th2, hth2, -⟩ := State.frames_cons hF
  refine ⟨X.admits, X.cas, X.clock, hF, ?_, ?_, X.method', X.code, X.here, X.tail, State.WarmedH.refl (T.setFrames (.invoking m args :: below)), (State.stackLimits_setFrames ..).symm, (State.stackBytes_setFrames ..).symm, ?_⟩
  · obtain ⟨r1, r2, r3, r4⟩ := State.hasRoom_stack X.room
    have r5 := State.hasRoom_real X.room
    have h := X.room
    simp only [State.hasRoom, Bool.and_eq_true, decide_eq_true_eq] at h
    rw [State.localsInUse_invoking X.frames X.method X.code] at r3 r4 r5
    rw [X.frames, List.length_cons] at r1 r2
    have hU : (T.setFrames (.invoking m args :: below)).localsInUse = stackWeight below + vmFrameWords + (c.maxLocals + 11) := State.localsInUse_invoking hF X.method' X.code
    simp only [State.hasRoom, Bool.and_eq_true, decide_eq_true_eq, hF, hU, List.length_cons, State.stackLimits_setFrames, State.stackBytes_setFrames, X.limits, X.bytes]
    have h6 := X.heapSize
    have h7 := X.used
    refine ⟨⟨⟨⟨by omega, by omega, by omega, by omega, by omega, h.1.1.1.2.2.2.2.2⟩, ?_⟩, ?_⟩, X.book⟩
    · have := h.1.1.2
      show T.heap.size + R'.cells ≤ e.platform.maxCells
      omega
    · have := h.1.2
      show T.slotsUsed + R'.slots ≤ e.platform.maxSlots
      omega
  · have hcode : ∀ mm, (T.setFrames (.invoking m args :: below)).code? mm = s.code? mm := fun mm => by
      rw [State.code?_eq, State.code?_eq]
      show (T.vm.method? mm).bind _ = _
      rw [X.warmed.alike.method?]
    have hme : (T.setFrames (.invoking m args :: below)).vm.method? m = s.vm.method? m := X.warmed.alike.method? ..
    have hh := X.hears
    cases below with
    | nil => simp only [State.hears, hme] at hh ⊢; exact hh
    | cons f r => cases f <;> simp only [State.hears, hcode, hme] at hh ⊢ <;> exact hh
  · have q := (State.sameButNew.refl (T.setFrames (.invoking m args :: below)) hth2).setFrames T.frames (State.cur_lt_of_frames hF)
    rw [State.setFrames_setFrames, State.setFrames_self hth] at q
    exact q
end AxLow
theorem ax_weaken {tb : Tables} {e : Env} {f : Frame} {below : List Frame} {x y : State} (h : Steps tb e (f :: below) x y) : Steps tb e below x y := by
  obtain ⟨n, hn, w⟩ := h
  exact ⟨n, hn, fun k hk => Within.weaken (mid := [f]) (w k hk)⟩
section AxCtx
variable (D : va_G) (dA : Nat → ClassId) (b base : Nat)
/-- a method's body stands: its code, its class, the words of the tables -/
def ax_ctx (p : Program) (e : Env) (R : Room) (s : State) (m : MethodId) (args : Array Value) (meth : Method) (c : Code) (M : ax_M) (y : MethodName) (bs : ByteArray) (nL fr lo : Nat) : Prop :=
  b < base ∧ p.tables.exec = Jvm.exec ∧ c.code = bs ∧ c.maxLocals = nL ∧ meth.sig.returnType = M.2.1 ∧ meth.locks = false ∧ c.exceptionTable.toList.map (fun h => (h.startPc, h.endPc, h.handlerPc, h.catchType)) = M.2.2.2.1 ∧
  s.vm.findClass (ax_cn M.1) = some m.cls ∧ meth.name = y.name ∧ (∀ w ∈ lw_tbl, ax_gw w = true → w.before args s = true) ∧ va_K D classes (ax_tys dA) s ∧ ax_tws base s ∧ va_Nc (ax_en 1) (ax_en 0) s ∧ fr ≤ R.frames ∧ lo ≤ R.locals ∧ e.platform.stackTraces = false
/-- a method's run, said of the machine -/
def ax_Snd (l : Launch) (mi : Nat) (as : List Value) (h : ax_H) (r : ax_R) : Prop :=
  h.1.length ≤ r.2.1.length ∧ h.2 ≤ r.2.2 ∧ ∀ (M : ax_M) (y : MethodName) (bs : ByteArray) (nL fr lo : Nat), ax_pr[mi]? = some M → ax_mm[mi]? = some (y, bs, nL, fr, lo) →
    ∀ (p : Program) (e : Env) (R : Room) (s : State) (m : MethodId) (below : List Frame) (meth : Method) (c : Code), ax_ctx D dA b base p e R s m (as.map (ax_v b base)).toArray meth c M y bs nL fr lo → r.2.1.length - h.1.length ≤ R.cells → r.2.2 - h.2 ≤ R.slots →
      ax_rep D dA b base s h s.heap → W p l e R s m (as.map (ax_v b base)).toArray below meth c s.heap [] 0 0 (ax_Q D dA b base below s h r) (entryFrame m (as.map (ax_v b base)).toArray nL)
end AxCtx
section AxIn
variable {D : va_G} {dA : Nat → ClassId} {b base : Nat} {p : Program} {l : Launch} {e : Env} {R : Room} {s : State} {m : MethodId} {args : Array Value} {below : List Frame} {meth : Method} {c : Code} {T : State} {locs : List Loc} {cells slots : Nat}
/-- a callee's method, and its context, out of the caller's -/
theorem ax_into (hbb : b < base) (X : Stand p l e R s m args below meth c T locs cells slots) (hx : p.tables.exec = Jvm.exec) (hG : ∀ w ∈ lw_tbl, ax_gw w = true → w.before args s = true) (hK : va_K D classes (ax_tys dA) s) (hTw : ax_tws base s) (hNc : va_Nc (ax_en 1) (ax_en 0) s) (hlo0 : ∀ q ∈ locs, base ≤ q.base) (hbs0 : base ≤ s.heap.size) (htr : e.platform.stackTraces = false)
    {g : JFrame} (hg : g.method = m) (hsize : g.locals.size = c.maxLocals) {ig : Instr} (hdg : decode c.code g.pc = .ok (ig, 3)) {mi : Nat} {M1 : ax_M} {y1 : MethodName} {bs1 : ByteArray} {nL1 fr1 lo1 : Nat} (hpr : ax_pr[mi]? = some M1) (hmm : ax_mm[mi]? = some (y1, bs1, nL1, fr1, lo1)) (hyx : y1 ≠ x) {mk : MethodId} (hn : s.methodNamed? y1 = some mk)
    (hfr : fr1 + 1 ≤ R.frames) (hlo : 2 * g.monitorRoom + (g.stack.map fun v => v.category).sum + (nL1 + 11) + lo1 ≤ R.locals) {as : List Value} {h : ax_H} {r1 : ax_R} (hcells : cells + (r1.2.1.length - h.1.length) ≤ R.cells) (hslots : slots + (r1.2.2 - h.2) ≤ R.slots) (hrep : ax_rep D dA b base s h T.heap) (hS : ax_Snd D dA b base l mi as h r1) :
    ∃ (t : State) (o : Outcome), (∀ acts, Steps p.tables e below (doInvoke e (T.setTop g) acts mk (as.map (ax_v b base)).toArray).1 t) ∧ Ended t (.java g :: below) o ∧ ax_end D dA b base (T.calling g mk (as.map (ax_v b base)).toArray) h r1 o t := by
  obtain ⟨hoky, hpl, hini, hcls, hco0, -⟩ := ax_mt_ok mi M1 _ hpr hmm
  have hco := hco0.resolve_left hyx
  have hal : s.vm.Alike T.vm := X.warmed.alike
  have hmeth : ∃ meth1 c1, s.vm.method? mk = some meth1 ∧ meth1.code = some c1 ∧ c1.code = bs1 ∧ c1.maxLocals = nL1 ∧ meth1.sig.returnType = M1.2.1 ∧ meth1.locks = false ∧ c1.exceptionTable.toList.map (fun h => (h.startPc, h.endPc, h.handlerPc, h.catchType)) = M1.2.2.2.1 := by
    rcases hco with ⟨he, hw⟩ | hw
    · obtain ⟨meth1, c1, q1, q2, q3, q4, q5, q6, q7, -⟩ := Cond.code_spec hn (hG _ hw.1 hw.2)
      refine ⟨meth1, c1, q1, q2, q3, q4, q5, q6, ?_⟩
      rw [he, Array.isEmpty_iff.mp q7]
      rfl
    · obtain ⟨mk', meth1, c1, q0, q1, q2, q3, q4, q5, q6, q7, -⟩ := Cond.codeWith_spec (hG _ hw.1 hw.2)
      cases hn.symm.trans q0
      exact ⟨meth1, c1, q1, q2, q3, q4, q6, q7, q5⟩
  obtain ⟨meth1, c1, q1, q2, q3, q4, q5, q6, q7⟩ := hmeth
  have hmk : T.vm.method? mk = some meth1 := by rw [hal.method?]; exact q1
  have hnT : T.methodNamed? y1 = some mk := X.named hn
  have hpk : T.plainMethod mk := State.plainMethod.of_named (s := T) hpl hnT hmk
  obtain ⟨Y₀, hin⟩ := X.into hg hsize hdg (as.map (ax_v b base)).toArray (R' := { frames := fr1, cells := r1.2.1.length - h.1.length, slots := r1.2.2 - h.2, locals := lo1 }) hmk q2 q6 hpk hfr (by rw [q4]; exact hlo) hcells hslots
  have hnC : (T.calling g mk (as.map (ax_v b base)).toArray).methodNamed? y1 = some mk := hnT
  have hctx : ax_ctx D dA b base p e { frames := fr1, cells := r1.2.1.length - h.1.length, slots := r1.2.2 - h.2, locals := lo1 } (T.calling g mk (as.map (ax_v b base)).toArray) mk (as.map (ax_v b base)).toArray meth1 c1 M1 y1 bs1 nL1 fr1 lo1 := by
    refine ⟨hbb, hx, q3, q4, q5, q6, q7, ?_, (name_of_methodNamed hnC hmk).1, fun w hw hg1 => ax_gw_keep hg1 (s := s) (U := T.calling g mk (as.map (ax_v b base)).toArray) X.warmed (hG w hw hg1), hK.moved hal, ax_tws_keep (s := s) (U := T.calling g mk (as.map (ax_v b base)).toArray) hal (fun q hq => (ax_low X hlo0 hbs0 q hq : T.heap[q]? = s.heap[q]?)) hTw, va_Nc.moved hal hNc, Nat.le_refl _, Nat.le_refl _, htr⟩
    rw [← hcls]
    exact findClass_of_methodNamed hnC
  obtain ⟨t, hst, o, -, hend, hE⟩ := hS.2.2 M1 y1 bs1 nL1 fr1 lo1 hpr hmm p e _ _ mk (.java g :: below) meth1 c1 hctx (Nat.le_refl _) (Nat.le_refl _) (ax_rep_moved (U := T.calling g mk (as.map (ax_v b base)).toArray) hal hrep) ((T.setTop g).pushFrame (.java (entryFrame mk (as.map (ax_v b base)).toArray c1.maxLocals))) rfl Y₀
  refine ⟨t, o, fun acts => ?_, hend, hE⟩
  rw [hin acts]
  rw [← q4] at hst
  exact ax_weaken hst
/-- behind a call that has returned -/
theorem ax_back (X : Stand p l e R s m args below meth c T locs cells slots) {g : JFrame} (hg : g.method = m) {ig : Instr} (hdg : decode c.code g.pc = .ok (ig, 3)) {mk : MethodId} {a : Array Value} {h h1 : ax_H} {v : Option Value} {t : State} {o : Outcome} (hend : Ended t (.java g :: below) o) (hE : ax_end D dA b base (T.calling g mk a) h (.inl v, h1) o t) :
    ∃ (T' : State) (L : List Loc), Stand p l e R s m args below meth c T' (locs ++ L) (cells + (h1.1.length - h.1.length)) (slots + (h1.2 - h.2)) ∧ (∀ q ∈ L, base ≤ q.base) ∧ ax_rep D dA b base s h1 T'.heap ∧ t = T'.setTop { g with pc := g.pc + 3, stack := (v.map (ax_v b base)).toList ++ g.stack } := by
  obtain ⟨rfl, hrep, hW, L, hsame, hL⟩ := hE
  obtain ⟨T', X', hW', -, ht⟩ := X.outOf hg hdg hend hW hsame
  have hheap : t.heap = T'.heap := by rw [ht]; rfl
  refine ⟨T', L, X', hL, ?_, ht⟩
  rw [← hheap]
  exact ax_rep_moved (u := T.calling g mk a) X.warmed.alike.symm hrep
/-- behind a call that has thrown -/
theorem ax_backX (X : Stand p l e R s m args below meth c T locs cells slots) {g : JFrame} (hg : g.method = m) {mk : MethodId} {a : Array Value} {h h1 : ax_H} {E : Nat} {t : State} {o : Outcome} (hend : Ended t (.java g :: below) o) (hE : ax_end D dA b base (T.calling g mk a) h (.inr E, h1) o t) :
    ∃ (T' : State) (L : List Loc) (ce : Cell), Stand p l e R s m args below meth c T' (locs ++ L) (cells + (h1.1.length - h.1.length)) (slots + (h1.2 - h.2)) ∧ (∀ q ∈ L, base ≤ q.base) ∧ ax_rep D dA b base s h1 T'.heap ∧ 1 < h1.1.length ∧ T'.heap[ax_ad b base (h1.1.length - 1)]? = some ce ∧ ce.vm = .none ∧ s.vm.findClass (ax_en E) = some ce.cls ∧ t = (T'.setTop g).pushFrame (.throwing (ax_ad b base (h1.1.length - 1))) := by
  obtain ⟨⟨h1', ce, rfl, hce, hcv, hcl⟩, hrep, hW, L, hsame, hL⟩ := hE
  obtain ⟨T', X', hW', -, ht⟩ := X.outOfThrown hg hend hW hsame
  have hheap : t.heap = T'.heap := by rw [ht]; exact Stand.throwing_heap _ _ _
  refine ⟨T', L, ce, X', hL, ?_, h1', by rw [← hheap]; exact hce, hcv, ?_, ht⟩
  · rw [← hheap]
    exact ax_rep_moved (u := T.calling g mk a) X.warmed.alike.symm hrep
  · have : T.vm.findClass (ax_en E) = some ce.cls := hcl
    rw [X.warmed.alike.findClass] at this
    exact this
end AxIn
end
