section
-- ===== PART A: goes FIRST, ahead of the names: the tables' words, and 'selects' of the private methods out of them =====
/-- a private method of a class that the tables say can be made, by its rows of tables_1 -/
def lw_okq (q : MethodName × Nat) : Prop := (q.1.cls ≠ "java/lang/invoke/MethodHandle" ∧ q.1.cls ≠ "java/lang/invoke/VarHandle") ∧ Cond.instantiable q.1.cls q.2 ∈ tables_1 ∧ Cond.privateMethod q.1 ∈ tables_1 ∧ Cond.instanceMethod q.1 ∈ tables_1
theorem lw_p0 : lw_okq (⟨"MakingLimits$Text", "passes", "(C)Z"⟩, 3) := ⟨⟨by decide +kernel, by decide +kernel⟩, List.mem_of_getElem? (i := 27) (by decide +kernel), List.mem_of_getElem? (i := 179) (by decide +kernel), List.mem_of_getElem? (i := 180) (by decide +kernel)⟩
theorem lw_p1 : lw_okq (⟨"MakingLimits$Text", "next", "()I"⟩, 3) := ⟨⟨by decide +kernel, by decide +kernel⟩, List.mem_of_getElem? (i := 27) (by decide +kernel), List.mem_of_getElem? (i := 183) (by decide +kernel), List.mem_of_getElem? (i := 184) (by decide +kernel)⟩
theorem lw_p2 : lw_okq (⟨"MakingLimits$Text", "readGrade", "()LMakingLimits$Grade;"⟩, 3) := ⟨⟨by decide +kernel, by decide +kernel⟩, List.mem_of_getElem? (i := 27) (by decide +kernel), List.mem_of_getElem? (i := 209) (by decide +kernel), List.mem_of_getElem? (i := 210) (by decide +kernel)⟩
theorem lw_p3 : lw_okq (⟨"MakingLimits$Text", "readLimits", "(LMakingLimits$Grade;)Z"⟩, 3) := ⟨⟨by decide +kernel, by decide +kernel⟩, List.mem_of_getElem? (i := 27) (by decide +kernel), List.mem_of_getElem? (i := 240) (by decide +kernel), List.mem_of_getElem? (i := 241) (by decide +kernel)⟩
theorem lw_p4 : lw_okq (⟨"MakingLimits$Text", "readWhole", "()I"⟩, 3) := ⟨⟨by decide +kernel, by decide +kernel⟩, List.mem_of_getElem? (i := 27) (by decide +kernel), List.mem_of_getElem? (i := 244) (by decide +kernel), List.mem_of_getElem? (i := 245) (by decide +kernel)⟩
theorem lw_p5 : lw_okq (⟨"MakingLimits$Text", "readSteps", "(LMakingLimits$Grade;)Z"⟩, 3) := ⟨⟨by decide +kernel, by decide +kernel⟩, List.mem_of_getElem? (i := 27) (by decide +kernel), List.mem_of_getElem? (i := 253) (by decide +kernel), List.mem_of_getElem? (i := 254) (by decide +kernel)⟩
theorem lw_p6 : lw_okq (⟨"MakingLimits$Text", "readDays", "(LMakingLimits$Grade;)Z"⟩, 3) := ⟨⟨by decide +kernel, by decide +kernel⟩, List.mem_of_getElem? (i := 27) (by decide +kernel), List.mem_of_getElem? (i := 261) (by decide +kernel), List.mem_of_getElem? (i := 262) (by decide +kernel)⟩
theorem lw_p7 : lw_okq (⟨"MakingLimits", "keepOffer", "(ILMakingLimits$Offer;)V"⟩, 8) := ⟨⟨by decide +kernel, by decide +kernel⟩, List.mem_of_getElem? (i := 19) (by decide +kernel), List.mem_of_getElem? (i := 277) (by decide +kernel), List.mem_of_getElem? (i := 278) (by decide +kernel)⟩
theorem lw_p8 : lw_okq (⟨"java/lang/Throwable", "fillInStackTrace", "(I)Ljava/lang/Throwable;"⟩, 6) := ⟨⟨by decide +kernel, by decide +kernel⟩, List.mem_of_getElem? (i := 361) (by decide +kernel), List.mem_of_getElem? (i := 359) (by decide +kernel), List.mem_of_getElem? (i := 360) (by decide +kernel)⟩
theorem lw_p9 : lw_okq (⟨"MakingLimits", "gradeOf", "(II)LMakingLimits$Grade;"⟩, 8) := ⟨⟨by decide +kernel, by decide +kernel⟩, List.mem_of_getElem? (i := 19) (by decide +kernel), List.mem_of_getElem? (i := 438) (by decide +kernel), List.mem_of_getElem? (i := 439) (by decide +kernel)⟩
theorem lw_p10 : lw_okq (⟨"MakingLimits", "offerOf", "(I)LMakingLimits$Offer;"⟩, 8) := ⟨⟨by decide +kernel, by decide +kernel⟩, List.mem_of_getElem? (i := 19) (by decide +kernel), List.mem_of_getElem? (i := 442) (by decide +kernel), List.mem_of_getElem? (i := 443) (by decide +kernel)⟩
theorem lw_p11 : lw_okq (⟨"MakingLimits$Cells", "units", "(II)J"⟩, 2) := ⟨⟨by decide +kernel, by decide +kernel⟩, List.mem_of_getElem? (i := 122) (by decide +kernel), List.mem_of_getElem? (i := 543) (by decide +kernel), List.mem_of_getElem? (i := 544) (by decide +kernel)⟩
theorem lw_p12 : lw_okq (⟨"MakingLimitsModel", "empty", "()V"⟩, 24) := ⟨⟨by decide +kernel, by decide +kernel⟩, List.mem_of_getElem? (i := 627) (by decide +kernel), List.mem_of_getElem? (i := 633) (by decide +kernel), List.mem_of_getElem? (i := 634) (by decide +kernel)⟩
theorem lw_p13 : lw_okq (⟨"MakingLimitsModel", "expect", "(I)V"⟩, 24) := ⟨⟨by decide +kernel, by decide +kernel⟩, List.mem_of_getElem? (i := 627) (by decide +kernel), List.mem_of_getElem? (i := 726) (by decide +kernel), List.mem_of_getElem? (i := 727) (by decide +kernel)⟩
theorem lw_p14 : lw_okq (⟨"MakingLimitsModel", "now", "()I"⟩, 24) := ⟨⟨by decide +kernel, by decide +kernel⟩, List.mem_of_getElem? (i := 627) (by decide +kernel), List.mem_of_getElem? (i := 730) (by decide +kernel), List.mem_of_getElem? (i := 731) (by decide +kernel)⟩
theorem lw_p15 : lw_okq (⟨"MakingLimitsModel", "isDigit", "()Z"⟩, 24) := ⟨⟨by decide +kernel, by decide +kernel⟩, List.mem_of_getElem? (i := 627) (by decide +kernel), List.mem_of_getElem? (i := 734) (by decide +kernel), List.mem_of_getElem? (i := 735) (by decide +kernel)⟩
def lw_privs_1 : List (MethodName × Nat) := [(⟨"MakingLimits$Text", "passes", "(C)Z"⟩, 3), (⟨"MakingLimits$Text", "next", "()I"⟩, 3), (⟨"MakingLimits$Text", "readGrade", "()LMakingLimits$Grade;"⟩, 3), (⟨"MakingLimits$Text", "readLimits", "(LMakingLimits$Grade;)Z"⟩, 3), (⟨"MakingLimits$Text", "readWhole", "()I"⟩, 3), (⟨"MakingLimits$Text", "readSteps", "(LMakingLimits$Grade;)Z"⟩, 3), (⟨"MakingLimits$Text", "readDays", "(LMakingLimits$Grade;)Z"⟩, 3), (⟨"MakingLimits", "keepOffer", "(ILMakingLimits$Offer;)V"⟩, 8), (⟨"java/lang/Throwable", "fillInStackTrace", "(I)Ljava/lang/Throwable;"⟩, 6), (⟨"MakingLimits", "gradeOf", "(II)LMakingLimits$Grade;"⟩, 8), (⟨"MakingLimits", "offerOf", "(I)LMakingLimits$Offer;"⟩, 8), (⟨"MakingLimits$Cells", "units", "(II)J"⟩, 2), (⟨"MakingLimitsModel", "empty", "()V"⟩, 24), (⟨"MakingLimitsModel", "expect", "(I)V"⟩, 24), (⟨"MakingLimitsModel", "now", "()I"⟩, 24), (⟨"MakingLimitsModel", "isDigit", "()Z"⟩, 24)]
theorem lw_r1 : ∀ q ∈ lw_privs_1, lw_okq q := List.forall_mem_cons.mpr ⟨lw_p0, List.forall_mem_cons.mpr ⟨lw_p1, List.forall_mem_cons.mpr ⟨lw_p2, List.forall_mem_cons.mpr ⟨lw_p3, List.forall_mem_cons.mpr ⟨lw_p4, List.forall_mem_cons.mpr ⟨lw_p5, List.forall_mem_cons.mpr ⟨lw_p6, List.forall_mem_cons.mpr ⟨lw_p7, List.forall_mem_cons.mpr ⟨lw_p8, List.forall_mem_cons.mpr ⟨lw_p9, List.forall_mem_cons.mpr ⟨lw_p10, List.forall_mem_cons.mpr ⟨lw_p11, List.forall_mem_cons.mpr ⟨lw_p12, List.forall_mem_cons.mpr ⟨lw_p13, List.forall_mem_cons.mpr ⟨lw_p14, List.forall_mem_cons.mpr ⟨lw_p15, fun _ h => absurd h List.not_mem_nil⟩⟩⟩⟩⟩⟩⟩⟩⟩⟩⟩⟩⟩⟩⟩⟩
theorem lw_p16 : lw_okq (⟨"MakingLimitsModel", "readClass", "(I)V"⟩, 24) := ⟨⟨by decide +kernel, by decide +kernel⟩, List.mem_of_getElem? (i := 627) (by decide +kernel), List.mem_of_getElem? (i := 738) (by decide +kernel), List.mem_of_getElem? (i := 739) (by decide +kernel)⟩
theorem lw_p17 : lw_okq (⟨"MakingLimitsModel", "whole", "()J"⟩, 24) := ⟨⟨by decide +kernel, by decide +kernel⟩, List.mem_of_getElem? (i := 627) (by decide +kernel), List.mem_of_getElem? (i := 745) (by decide +kernel), List.mem_of_getElem? (i := 746) (by decide +kernel)⟩
theorem lw_p18 : lw_okq (⟨"MakingLimitsModel", "copyClasses", "(II)V"⟩, 24) := ⟨⟨by decide +kernel, by decide +kernel⟩, List.mem_of_getElem? (i := 627) (by decide +kernel), List.mem_of_getElem? (i := 753) (by decide +kernel), List.mem_of_getElem? (i := 754) (by decide +kernel)⟩
theorem lw_p19 : lw_okq (⟨"MakingLimitsModel", "isClass", "(II)Z"⟩, 24) := ⟨⟨by decide +kernel, by decide +kernel⟩, List.mem_of_getElem? (i := 627) (by decide +kernel), List.mem_of_getElem? (i := 776) (by decide +kernel), List.mem_of_getElem? (i := 777) (by decide +kernel)⟩
theorem lw_p20 : lw_okq (⟨"MakingLimitsModel", "isMaker", "(I)Z"⟩, 24) := ⟨⟨by decide +kernel, by decide +kernel⟩, List.mem_of_getElem? (i := 627) (by decide +kernel), List.mem_of_getElem? (i := 780) (by decide +kernel), List.mem_of_getElem? (i := 781) (by decide +kernel)⟩
theorem lw_p21 : lw_okq (⟨"MakingLimitsModel", "beyond", "(III)J"⟩, 24) := ⟨⟨by decide +kernel, by decide +kernel⟩, List.mem_of_getElem? (i := 627) (by decide +kernel), List.mem_of_getElem? (i := 784) (by decide +kernel), List.mem_of_getElem? (i := 785) (by decide +kernel)⟩
theorem lw_p22 : lw_okq (⟨"MakingLimitsModel", "leastOf", "(I)I"⟩, 24) := ⟨⟨by decide +kernel, by decide +kernel⟩, List.mem_of_getElem? (i := 627) (by decide +kernel), List.mem_of_getElem? (i := 796) (by decide +kernel), List.mem_of_getElem? (i := 797) (by decide +kernel)⟩
theorem lw_p23 : lw_okq (⟨"MakingLimitsModel", "makes", "(II)Z"⟩, 24) := ⟨⟨by decide +kernel, by decide +kernel⟩, List.mem_of_getElem? (i := 627) (by decide +kernel), List.mem_of_getElem? (i := 800) (by decide +kernel), List.mem_of_getElem? (i := 801) (by decide +kernel)⟩
theorem lw_p24 : lw_okq (⟨"MakingLimitsModel", "priceOf", "(IIJ)J"⟩, 24) := ⟨⟨by decide +kernel, by decide +kernel⟩, List.mem_of_getElem? (i := 627) (by decide +kernel), List.mem_of_getElem? (i := 811) (by decide +kernel), List.mem_of_getElem? (i := 812) (by decide +kernel)⟩
def lw_privs_2 : List (MethodName × Nat) := [(⟨"MakingLimitsModel", "readClass", "(I)V"⟩, 24), (⟨"MakingLimitsModel", "whole", "()J"⟩, 24), (⟨"MakingLimitsModel", "copyClasses", "(II)V"⟩, 24), (⟨"MakingLimitsModel", "isClass", "(II)Z"⟩, 24), (⟨"MakingLimitsModel", "isMaker", "(I)Z"⟩, 24), (⟨"MakingLimitsModel", "beyond", "(III)J"⟩, 24), (⟨"MakingLimitsModel", "leastOf", "(I)I"⟩, 24), (⟨"MakingLimitsModel", "makes", "(II)Z"⟩, 24), (⟨"MakingLimitsModel", "priceOf", "(IIJ)J"⟩, 24)]
theorem lw_r2 : ∀ q ∈ lw_privs_2, lw_okq q := List.forall_mem_cons.mpr ⟨lw_p16, List.forall_mem_cons.mpr ⟨lw_p17, List.forall_mem_cons.mpr ⟨lw_p18, List.forall_mem_cons.mpr ⟨lw_p19, List.forall_mem_cons.mpr ⟨lw_p20, List.forall_mem_cons.mpr ⟨lw_p21, List.forall_mem_cons.mpr ⟨lw_p22, List.forall_mem_cons.mpr ⟨lw_p23, List.forall_mem_cons.mpr ⟨lw_p24, fun _ h => absurd h List.not_mem_nil⟩⟩⟩⟩⟩⟩⟩⟩⟩
def lw_privs : List (MethodName × Nat) := lw_privs_1 ++ (lw_privs_2)
def lw_tbl : List Cond := k2_sels lw_privs ++ tables_1
theorem lw_privs_ok : ∀ q ∈ lw_privs, lw_okq q := by
  show ∀ q ∈ lw_privs_1 ++ (lw_privs_2), lw_okq q
  exact List.forall_mem_append.mpr ⟨lw_r1, lw_r2⟩
end
section
/-! AN ABSTRACT MACHINE for the methods of this claim. Cells have numbers instead of addresses; a value is the machine's, with a cell's number for an address.
ax_C: an array (its kind, its contents) or an object (its class's place in 'classes', its fields); ax_H: the cells (none: one that nobody looks into), and how many slots were ever made. -/
abbrev ax_C : Type := (Nat × vp_A) ⊕ (Nat × List Value)
abbrev ax_H : Type := List (Option ax_C) × Nat
abbrev ax_L : Type := List (Nat × Value)
/-- an end: an answer, or the number of the class of what was thrown -/
abbrev ax_R : Type := (Option Value ⊕ Nat) × ax_H
/-- a method: its class's number, what it returns, its instructions (place, instruction, next place, place jumped to), its handlers, whether it makes an object -/
abbrev ax_M : Type := Nat × Option FieldType × List (Nat × Instr × Nat × Nat) × List (Nat × Nat × Nat × Nat) × Bool
end
section
/-! printed by wip/gen.py out of javap's listing: the classes, the tables of links, the methods -/
def ax_cn (k : Nat) : String := match k with
  | 0 => "MakingLimits"
  | 1 => "MakingLimits$Board"
  | 2 => "MakingLimits$Cells"
  | 3 => "MakingLimits$Grade"
  | 4 => "MakingLimits$Offer"
  | 5 => "MakingLimits$Orders"
  | 6 => "MakingLimits$Quotes"
  | 7 => "MakingLimits$Remarks"
  | 8 => "MakingLimits$Text"
  | 9 => "MakingLimitsModel"
  | 10 => "MakingLimitsLaw"
  | 11 => "java/util/Arrays"
  | _ => "java/lang/Math"
def ax_en (k : Nat) : String := match k with
  | 0 => "java/lang/IndexOutOfBoundsException"
  | _ => "java/lang/IllegalArgumentException"
def ax_F0 : u_T := fun k => match k with
  | 0 => ("MakingLimits", "text", "LMakingLimits$Text;", true)
  | 1 => ("MakingLimits", "offers", "[LMakingLimits$Offer;", true)
  | 2 => ("MakingLimits", "told", "I", false)
  | 3 => ("MakingLimits", "board", "LMakingLimits$Board;", true)
  | 4 => ("MakingLimits", "remarks", "LMakingLimits$Remarks;", true)
  | 5 => ("MakingLimits", "quotes", "LMakingLimits$Quotes;", true)
  | 6 => ("MakingLimits", "orders", "LMakingLimits$Orders;", true)
  | _ => ("MakingLimits", "cells", "LMakingLimits$Cells;", true)
def ax_t0 : Nat → FieldType := fun k => match k with
  | 0 => .object "MakingLimits$Text"
  | 1 => .array (.object "MakingLimits$Offer")
  | 2 => .int
  | 3 => .object "MakingLimits$Board"
  | 4 => .object "MakingLimits$Remarks"
  | 5 => .object "MakingLimits$Quotes"
  | 6 => .object "MakingLimits$Orders"
  | _ => .object "MakingLimits$Cells"
def ax_F1 : u_T := fun k => match k with
  | 0 => ("MakingLimits$Board", "kinds", "[I", true)
  | 1 => ("MakingLimits$Board", "values", "[I", true)
  | 2 => ("MakingLimits$Board", "layers", "[I", true)
  | 3 => ("MakingLimits$Board", "xs", "[I", true)
  | 4 => ("MakingLimits$Board", "ys", "[I", true)
  | _ => ("MakingLimits$Board", "count", "I", false)
def ax_t1 : Nat → FieldType := fun k => match k with
  | 0 => .array .int
  | 1 => .array .int
  | 2 => .array .int
  | 3 => .array .int
  | 4 => .array .int
  | _ => .int
def ax_F2 : u_T := fun k => match k with
  | 0 => ("MakingLimits$Cells", "aboves", "[I", true)
  | _ => ("MakingLimits$Cells", "belows", "[I", true)
def ax_t2 : Nat → FieldType := fun k => match k with
  | 0 => .array .int
  | _ => .array .int
def ax_F3 : u_T := fun k => match k with
  | 0 => ("MakingLimits$Grade", "limits", "[I", true)
  | 1 => ("MakingLimits$Grade", "froms", "[I", true)
  | 2 => ("MakingLimits$Grade", "cents", "[I", true)
  | 3 => ("MakingLimits$Grade", "steps", "I", false)
  | 4 => ("MakingLimits$Grade", "days", "I", false)
  | _ => ("MakingLimits$Grade", "canBe", "Z", false)
def ax_t3 : Nat → FieldType := fun k => match k with
  | 0 => .array .int
  | 1 => .array .int
  | 2 => .array .int
  | 3 => .int
  | 4 => .int
  | _ => .boolean
def ax_F4 : u_T := fun k => match k with
  | 0 => ("MakingLimits$Offer", "grades", "[LMakingLimits$Grade;", true)
  | _ => ("MakingLimits$Offer", "count", "I", false)
def ax_t4 : Nat → FieldType := fun k => match k with
  | 0 => .array (.object "MakingLimits$Grade")
  | _ => .int
def ax_F5 : u_T := fun k => match k with
  | 0 => ("MakingLimits$Orders", "parts", "[I", true)
  | _ => ("MakingLimits$Orders", "count", "I", false)
def ax_t5 : Nat → FieldType := fun k => match k with
  | 0 => .array .int
  | _ => .int
def ax_F6 : u_T := fun k => match k with
  | 0 => ("MakingLimits$Quotes", "makers", "[I", true)
  | 1 => ("MakingLimits$Quotes", "offers", "[LMakingLimits$Offer;", true)
  | 2 => ("MakingLimits$Quotes", "untils", "[J", true)
  | _ => ("MakingLimits$Quotes", "count", "I", false)
def ax_t6 : Nat → FieldType := fun k => match k with
  | 0 => .array .int
  | 1 => .array (.object "MakingLimits$Offer")
  | 2 => .array .long
  | _ => .int
def ax_F7 : u_T := fun k => match k with
  | 0 => ("MakingLimits$Remarks", "things", "[I", true)
  | 1 => ("MakingLimits$Remarks", "excesses", "[I", true)
  | _ => ("MakingLimits$Remarks", "count", "I", false)
def ax_t7 : Nat → FieldType := fun k => match k with
  | 0 => .array .int
  | 1 => .array .int
  | _ => .int
def ax_F8 : u_T := fun k => match k with
  | 0 => ("MakingLimits$Text", "characters", "[C", true)
  | 1 => ("MakingLimits$Text", "length", "I", false)
  | _ => ("MakingLimits$Text", "place", "I", false)
def ax_t8 : Nat → FieldType := fun k => match k with
  | 0 => .array .char
  | 1 => .int
  | _ => .int
def ax_F9 : u_T := fun k => match k with
  | 0 => ("MakingLimitsModel", "thrown", "I", false)
  | 1 => ("MakingLimitsModel", "units", "I", false)
  | 2 => ("MakingLimitsModel", "text", "[I", true)
  | 3 => ("MakingLimitsModel", "makers", "I", false)
  | 4 => ("MakingLimitsModel", "classes", "[I", true)
  | 5 => ("MakingLimitsModel", "numbers", "[J", true)
  | 6 => ("MakingLimitsModel", "things", "I", false)
  | 7 => ("MakingLimitsModel", "kinds", "[I", true)
  | 8 => ("MakingLimitsModel", "values", "[J", true)
  | 9 => ("MakingLimitsModel", "layers", "[I", true)
  | 10 => ("MakingLimitsModel", "x", "[J", true)
  | 11 => ("MakingLimitsModel", "y", "[J", true)
  | 12 => ("MakingLimitsModel", "remarks", "I", false)
  | 13 => ("MakingLimitsModel", "remarkOf", "[I", true)
  | 14 => ("MakingLimitsModel", "excess", "[J", true)
  | 15 => ("MakingLimitsModel", "quotes", "I", false)
  | 16 => ("MakingLimitsModel", "quoteMaker", "[I", true)
  | 17 => ("MakingLimitsModel", "until", "[J", true)
  | 18 => ("MakingLimitsModel", "orders", "I", false)
  | 19 => ("MakingLimitsModel", "orderRow", "[J", true)
  | 20 => ("MakingLimitsModel", "above", "[J", true)
  | 21 => ("MakingLimitsModel", "below", "[J", true)
  | 22 => ("MakingLimitsModel", "at", "I", false)
  | _ => ("MakingLimitsModel", "wrong", "I", false)
def ax_t9 : Nat → FieldType := fun k => match k with
  | 0 => .int
  | 1 => .int
  | 2 => .array .int
  | 3 => .int
  | 4 => .array .int
  | 5 => .array .long
  | 6 => .int
  | 7 => .array .int
  | 8 => .array .long
  | 9 => .array .int
  | 10 => .array .long
  | 11 => .array .long
  | 12 => .int
  | 13 => .array .int
  | 14 => .array .long
  | 15 => .int
  | 16 => .array .int
  | 17 => .array .long
  | 18 => .int
  | 19 => .array .long
  | 20 => .array .long
  | 21 => .array .long
  | 22 => .int
  | _ => .int
abbrev classes : List vw_C := [("MakingLimits", ax_F0, 8), ("MakingLimits$Board", ax_F1, 6), ("MakingLimits$Cells", ax_F2, 2), ("MakingLimits$Grade", ax_F3, 6), ("MakingLimits$Offer", ax_F4, 2), ("MakingLimits$Orders", ax_F5, 2), ("MakingLimits$Quotes", ax_F6, 4), ("MakingLimits$Remarks", ax_F7, 3), ("MakingLimits$Text", ax_F8, 3), ("MakingLimitsModel", ax_F9, 24)]
def ax_ty (ci : Nat) : Nat → FieldType := match ci with
  | 0 => ax_t0
  | 1 => ax_t1
  | 2 => ax_t2
  | 3 => ax_t3
  | 4 => ax_t4
  | 5 => ax_t5
  | 6 => ax_t6
  | 7 => ax_t7
  | 8 => ax_t8
  | _ => ax_t9
def ax_dfl (ci : Nat) : List Value := match ci with
  | 0 => [.null, .null, .int 0, .null, .null, .null, .null, .null]
  | 1 => [.null, .null, .null, .null, .null, .int 0]
  | 2 => [.null, .null]
  | 3 => [.null, .null, .null, .int 0, .int 0, .int 0]
  | 4 => [.null, .int 0]
  | 5 => [.null, .int 0]
  | 6 => [.null, .null, .null, .int 0]
  | 7 => [.null, .null, .int 0]
  | 8 => [.null, .int 0, .int 0]
  | _ => [.int 0, .int 0, .null, .int 0, .null, .null, .int 0, .null, .null, .null, .null, .null, .int 0, .null, .null, .int 0, .null, .null, .int 0, .null, .null, .null, .int 0, .int 0]
def ax_fin (ci k : Nat) : Bool := match ci, k with
  | 0, 0 => true
  | 0, 1 => true
  | 0, 3 => true
  | 0, 4 => true
  | 0, 5 => true
  | 0, 6 => true
  | 0, 7 => true
  | 1, 0 => true
  | 1, 1 => true
  | 1, 2 => true
  | 1, 3 => true
  | 1, 4 => true
  | 2, 0 => true
  | 2, 1 => true
  | 3, 0 => true
  | 3, 1 => true
  | 3, 2 => true
  | 4, 0 => true
  | 5, 0 => true
  | 6, 0 => true
  | 6, 1 => true
  | 6, 2 => true
  | 7, 0 => true
  | 7, 1 => true
  | 8, 0 => true
  | 9, 2 => true
  | 9, 4 => true
  | 9, 5 => true
  | 9, 7 => true
  | 9, 8 => true
  | 9, 9 => true
  | 9, 10 => true
  | 9, 11 => true
  | 9, 13 => true
  | 9, 14 => true
  | 9, 16 => true
  | 9, 17 => true
  | 9, 19 => true
  | 9, 20 => true
  | 9, 21 => true
  | _, _ => false
def ax_ak : ArrayType → Option Nat
  | .int => some 0
  | .long => some 1
  | .char => some 2
  | _ => none
/-- the class whose objects an array of references holds -/
def ax_cmp (k : Nat) : Nat := if k = 3 then 4 else 3
def ax_tF : List ((Nat × Nat) × (Nat × Nat)) := [((0, 10), (0, 0)), ((0, 18), (0, 1)), ((0, 22), (0, 2)), ((0, 29), (0, 3)), ((0, 36), (0, 4)), ((0, 43), (0, 5)), ((0, 50), (0, 6)), ((0, 57), (0, 7)), ((0, 203), (3, 4)), ((1, 11), (1, 0)), ((1, 15), (1, 1)), ((1, 18), (1, 2)), ((1, 21), (1, 3)), ((1, 24), (1, 4)), ((1, 27), (1, 5)), ((2, 11), (2, 0)), ((2, 15), (2, 1)), ((3, 9), (3, 0)), ((3, 15), (3, 1)), ((3, 18), (3, 2)), ((3, 21), (3, 5)), ((3, 26), (3, 3)), ((3, 30), (3, 4)), ((4, 11), (4, 0)), ((4, 17), (4, 1)), ((5, 11), (5, 0)), ((5, 15), (5, 1)), ((6, 11), (6, 0)), ((6, 17), (6, 1)), ((6, 21), (6, 2)), ((6, 25), (6, 3)), ((7, 11), (7, 0)), ((7, 17), (7, 1)), ((7, 20), (7, 2)), ((8, 11), (8, 0)), ((8, 15), (8, 1)), ((8, 19), (8, 2)), ((8, 41), (3, 5)), ((9, 7), (9, 2)), ((9, 13), (9, 4)), ((9, 16), (9, 5)), ((9, 20), (9, 7)), ((9, 23), (9, 8)), ((9, 26), (9, 9)), ((9, 29), (9, 10)), ((9, 32), (9, 11)), ((9, 35), (9, 13)), ((9, 38), (9, 14)), ((9, 41), (9, 16)), ((9, 44), (9, 17)), ((9, 47), (9, 19)), ((9, 50), (9, 20)), ((9, 53), (9, 21)), ((9, 59), (9, 1)), ((9, 63), (9, 3)), ((9, 66), (9, 6)), ((9, 69), (9, 12)), ((9, 72), (9, 15)), ((9, 75), (9, 18)), ((9, 78), (9, 0)), ((9, 81), (9, 22)), ((9, 84), (9, 23))]
def ax_tM : List ((Nat × Nat) × (Nat × Nat)) := [((0, 9), (62, 1)), ((0, 28), (23, 1)), ((0, 35), (57, 1)), ((0, 42), (52, 1)), ((0, 49), (47, 1)), ((0, 56), (31, 1)), ((0, 61), (63, 2)), ((0, 65), (66, 2)), ((0, 69), (67, 1)), ((0, 73), (65, 1)), ((0, 77), (17, 3)), ((0, 81), (64, 1)), ((0, 84), (21, 1)), ((0, 101), (24, 4)), ((0, 104), (25, 2)), ((0, 113), (26, 4)), ((0, 117), (19, 3)), ((0, 121), (58, 3)), ((0, 127), (59, 2)), ((0, 130), (60, 2)), ((0, 133), (29, 3)), ((0, 137), (18, 2)), ((0, 141), (46, 2)), ((0, 145), (20, 1)), ((0, 149), (42, 2)), ((0, 159), (32, 1)), ((0, 164), (34, 3)), ((0, 168), (129, 1)), ((0, 175), (22, 2)), ((0, 179), (53, 4)), ((0, 188), (33, 5)), ((0, 192), (45, 2)), ((0, 196), (54, 3)), ((0, 200), (55, 2)), ((0, 206), (48, 7)), ((0, 209), (49, 2)), ((0, 212), (50, 3)), ((0, 213), (30, 1)), ((0, 214), (61, 1)), ((0, 215), (56, 1)), ((0, 216), (51, 1)), ((0, 217), (36, 1)), ((0, 218), (127, 2)), ((0, 227), (128, 2)), ((1, 31), (25, 2)), ((1, 35), (41, 3)), ((1, 41), (27, 3)), ((2, 18), (126, 2)), ((2, 24), (21, 1)), ((2, 28), (32, 1)), ((2, 31), (35, 3)), ((3, 33), (128, 2)), ((4, 21), (45, 2)), ((4, 25), (28, 2)), ((5, 21), (49, 2)), ((7, 24), (27, 3)), ((8, 22), (73, 2)), ((8, 26), (74, 1)), ((8, 30), (75, 1)), ((8, 36), (43, 1)), ((8, 37), (68, 1)), ((8, 47), (44, 2)), ((8, 51), (37, 1)), ((8, 52), (69, 2)), ((8, 55), (70, 2)), ((8, 58), (71, 2)), ((8, 61), (72, 1)), ((8, 64), (38, 3)), ((8, 68), (39, 3)), ((8, 71), (40, 2)), ((9, 56), (77, 1)), ((9, 87), (81, 1)), ((9, 91), (83, 1)), ((9, 99), (85, 2)), ((9, 103), (82, 2)), ((9, 107), (84, 1)), ((9, 115), (86, 2)), ((9, 118), (87, 3)), ((9, 122), (89, 1)), ((9, 128), (91, 1)), ((9, 132), (93, 4)), ((9, 136), (94, 3)), ((9, 140), (96, 2)), ((9, 143), (97, 3)), ((9, 146), (95, 2)), ((9, 150), (101, 1)), ((9, 153), (102, 4)), ((9, 157), (106, 2)), ((10, 7), (3, 4)), ((10, 17), (4, 4)), ((10, 21), (5, 3)), ((10, 25), (6, 3)), ((10, 28), (7, 2)), ((10, 32), (8, 4)), ((10, 36), (9, 4)), ((10, 40), (10, 4)), ((10, 44), (11, 3)), ((10, 48), (12, 5)), ((10, 52), (13, 2)), ((10, 56), (14, 4)), ((10, 60), (15, 3)), ((10, 63), (0, 1)), ((10, 66), (76, 1)), ((10, 67), (1, 2)), ((10, 71), (80, 2)), ((10, 72), (2, 1)), ((10, 76), (88, 1)), ((10, 79), (112, 5)), ((10, 84), (90, 4)), ((10, 85), (78, 1)), ((10, 88), (113, 5)), ((10, 91), (92, 4)), ((10, 92), (114, 4)), ((10, 95), (98, 3)), ((10, 96), (115, 4)), ((10, 98), (99, 3)), ((10, 99), (116, 3)), ((10, 102), (100, 2)), ((10, 103), (117, 5)), ((10, 106), (103, 4)), ((10, 107), (118, 5)), ((10, 110), (104, 4)), ((10, 111), (119, 5)), ((10, 114), (108, 4)), ((10, 115), (120, 4)), ((10, 118), (109, 3)), ((10, 119), (121, 6)), ((10, 122), (107, 5)), ((10, 123), (122, 3)), ((10, 126), (105, 2)), ((10, 127), (123, 5)), ((10, 129), (110, 4)), ((10, 130), (124, 4)), ((10, 132), (111, 3)), ((10, 133), (16, 1)), ((10, 136), (79, 1))]
def ax_tN : List ((Nat × Nat) × Nat) := [((0, 7), 8), ((0, 26), 1), ((0, 33), 7), ((0, 40), 6), ((0, 47), 5), ((0, 54), 2), ((8, 34), 4), ((8, 42), 3), ((10, 8), 0), ((10, 64), 9)]
def ax_tX : List ((Nat × Nat) × (Nat × Nat)) := [((0, 87), (0, 91)), ((0, 96), (1, 100))]
def ax_tS : List (Nat × Nat) := [(0, 89), (0, 98), (0, 107), (0, 111), (0, 125), (0, 155), (0, 157), (0, 162), (0, 182), (0, 186), (0, 210), (0, 221), (0, 223), (0, 225)]
def ax_tR : List ((Nat × Nat) × Nat) := [((0, 16), 3), ((4, 9), 4), ((6, 15), 3)]
def ax_tI : List ((Nat × Nat) × Int32) := [((3, 25), 1000000)]
def ax_tL : List ((Nat × Nat) × Int64) := [((0, 94), 1000000), ((0, 109), (-1000000)), ((0, 173), 40320), ((0, 184), 10), ((2, 35), 16), ((5, 19), 1000), ((9, 95), 10), ((9, 97), 48), ((9, 111), 1000000), ((9, 113), 1000), ((9, 126), (-1000000)), ((9, 160), 2520), ((9, 162), 16), ((9, 164), 40320), ((9, 166), (-1)), ((10, 77), 4294967295)]
def ax_tO : List (Nat × Nat) := [(0, 1), (1, 3), (2, 5), (3, 3), (4, 3), (5, 3), (6, 3), (7, 3), (8, 3), (9, 1)]
def ax_tC : List ((Nat × Nat) × Nat) := [((10, 13), 0), ((10, 15), 1)]
def tb_ML_init_1 : List (Nat × Instr × Nat × Nat) := [(0, .aload_n 0, 1, 0), (1, .invokespecial 1, 4, 0), (4, .aload_n 0, 5, 0), (5, .new 7, 8, 0), (8, .dup, 9, 0), (9, .invokespecial 9, 12, 0), (12, .putfield 10, 15, 0), (15, .aload_n 0, 16, 0), (16, .iconst 4, 17, 0), (17, .anewarray 16, 20, 0), (20, .putfield 18, 23, 0), (23, .aload_n 0, 24, 0), (24, .iconst 0, 25, 0), (25, .putfield 22, 28, 0), (28, .aload_n 0, 29, 0), (29, .new 26, 32, 0), (32, .dup, 33, 0), (33, .invokespecial 28, 36, 0), (36, .putfield 29, 39, 0), (39, .aload_n 0, 40, 0), (40, .new 33, 43, 0), (43, .dup, 44, 0), (44, .invokespecial 35, 47, 0), (47, .putfield 36, 50, 0), (50, .aload_n 0, 51, 0), (51, .new 40, 54, 0), (54, .dup, 55, 0), (55, .invokespecial 42, 58, 0), (58, .putfield 43, 61, 0), (61, .aload_n 0, 62, 0)]
def tb_ML_init_2 : List (Nat × Instr × Nat × Nat) := [(62, .new 47, 65, 0), (65, .dup, 66, 0), (66, .invokespecial 49, 69, 0), (69, .putfield 50, 72, 0), (72, .aload_n 0, 73, 0), (73, .new 54, 76, 0), (76, .dup, 77, 0), (77, .invokespecial 56, 80, 0), (80, .putfield 57, 83, 0), (83, .return_, 84, 0)]
def tb_ML_init : List (Nat × Instr × Nat × Nat) := tb_ML_init_1 ++ tb_ML_init_2
def M_ML_init : ax_M := (0, none, tb_ML_init, [], true)
def m_ML_init : Nat := 0
def tb_ML_unit : List (Nat × Instr × Nat × Nat) := [(0, .aload_n 0, 1, 0), (1, .getfield 10, 4, 0), (4, .iload_n 1, 5, 0), (5, .invokevirtual 61, 8, 0), (8, .ireturn, 9, 0)]
def M_ML_unit : ax_M := (0, (some .boolean), tb_ML_unit, [], false)
def m_ML_unit : Nat := 1
def tb_ML_maker_1 : List (Nat × Instr × Nat × Nat) := [(0, .aload_n 0, 1, 0), (1, .getfield 10, 4, 0), (4, .aload_n 0, 5, 0), (5, .getfield 22, 8, 0), (8, .invokevirtual 65, 11, 0), (11, .istore_n 1, 12, 0), (12, .iload_n 1, 13, 0), (13, .iconst (-1), 14, 0), (14, .if_icmp .ne 7, 17, 21), (17, .aconst_null, 18, 0), (18, .goto 10, 21, 28), (21, .aload_n 0, 22, 0), (22, .getfield 10, 25, 0), (25, .invokevirtual 69, 28, 0), (28, .astore_n 2, 29, 0), (29, .iload_n 1, 30, 0), (30, .istore_n 3, 31, 0), (31, .aload_n 2, 32, 0), (32, .ifnonnull 16, 35, 48), (35, .iconst (-1), 36, 0), (36, .aload_n 0, 37, 0), (37, .getfield 10, 40, 0), (40, .invokevirtual 73, 43, 0), (43, .isub, 44, 0), (44, .istore_n 3, 45, 0), (45, .goto 9, 48, 54), (48, .aload_n 0, 49, 0), (49, .iload_n 1, 50, 0), (50, .aload_n 2, 51, 0), (51, .invokevirtual 77, 54, 0)]
def tb_ML_maker_2 : List (Nat × Instr × Nat × Nat) := [(54, .aload_n 0, 55, 0), (55, .getfield 10, 58, 0), (58, .invokevirtual 81, 61, 0), (61, .iload_n 3, 62, 0), (62, .ireturn, 63, 0)]
def tb_ML_maker : List (Nat × Instr × Nat × Nat) := tb_ML_maker_1 ++ tb_ML_maker_2
def M_ML_maker : ax_M := (0, (some .int), tb_ML_maker, [], false)
def m_ML_maker : Nat := 2
def tb_ML_thing_1 : List (Nat × Instr × Nat × Nat) := [(0, .iload_n 1, 1, 0), (1, .ifCond .lt 17, 4, 18), (4, .iload_n 1, 5, 0), (5, .bipush 6, 7, 0), (7, .if_icmp .ge 11, 10, 18), (10, .iload 4, 12, 0), (12, .invokestatic 84, 15, 0), (15, .ifCond .eq 13, 18, 28), (18, .new 87, 21, 0), (21, .dup, 22, 0), (22, .ldc 89, 24, 0), (24, .invokespecial 91, 27, 0), (27, .athrow, 28, 0), (28, .lload_n 2, 29, 0), (29, .lconst 0, 30, 0), (30, .lcmp, 31, 0), (31, .ifCond .lt 11, 34, 42), (34, .lload_n 2, 35, 0), (35, .ldc2_w 94, 38, 0), (38, .lcmp, 39, 0), (39, .ifCond .le 13, 42, 52), (42, .new 96, 45, 0), (45, .dup, 46, 0), (46, .ldc 98, 48, 0), (48, .invokespecial 100, 51, 0), (51, .athrow, 52, 0), (52, .aload_n 0, 53, 0), (53, .getfield 29, 56, 0), (56, .iload_n 1, 57, 0), (57, .lload_n 2, 58, 0)]
def tb_ML_thing_2 : List (Nat × Instr × Nat × Nat) := [(58, .l2i, 59, 0), (59, .iload 4, 61, 0), (61, .invokevirtual 101, 64, 0), (64, .ireturn, 65, 0)]
def tb_ML_thing : List (Nat × Instr × Nat × Nat) := tb_ML_thing_1 ++ tb_ML_thing_2
def M_ML_thing : ax_M := (0, (some .int), tb_ML_thing, [], false)
def m_ML_thing : Nat := 3
def tb_ML_at_1 : List (Nat × Instr × Nat × Nat) := [(0, .aload_n 0, 1, 0), (1, .getfield 29, 4, 0), (4, .iload_n 1, 5, 0), (5, .invokevirtual 104, 8, 0), (8, .ifCond .eq 13, 11, 21), (11, .new 87, 14, 0), (14, .dup, 15, 0), (15, .ldc 107, 17, 0), (17, .invokespecial 91, 20, 0), (20, .athrow, 21, 0), (21, .lload_n 2, 22, 0), (22, .ldc2_w 109, 25, 0), (25, .lcmp, 26, 0), (26, .ifCond .lt 29, 29, 55), (29, .lload_n 2, 30, 0), (30, .ldc2_w 94, 33, 0), (33, .lcmp, 34, 0), (34, .ifCond .gt 21, 37, 55), (37, .lload 4, 39, 0), (39, .ldc2_w 109, 42, 0), (42, .lcmp, 43, 0), (43, .ifCond .lt 12, 46, 55), (46, .lload 4, 48, 0), (48, .ldc2_w 94, 51, 0), (51, .lcmp, 52, 0), (52, .ifCond .le 13, 55, 65), (55, .new 96, 58, 0), (58, .dup, 59, 0), (59, .ldc 111, 61, 0), (61, .invokespecial 100, 64, 0)]
def tb_ML_at_2 : List (Nat × Instr × Nat × Nat) := [(64, .athrow, 65, 0), (65, .aload_n 0, 66, 0), (66, .getfield 29, 69, 0), (69, .iload_n 1, 70, 0), (70, .lload_n 2, 71, 0), (71, .l2i, 72, 0), (72, .lload 4, 74, 0), (74, .l2i, 75, 0), (75, .invokevirtual 113, 78, 0), (78, .ireturn, 79, 0)]
def tb_ML_at : List (Nat × Instr × Nat × Nat) := tb_ML_at_1 ++ tb_ML_at_2
def M_ML_at : ax_M := (0, (some .boolean), tb_ML_at, [], false)
def m_ML_at : Nat := 4
def tb_ML_run : List (Nat × Instr × Nat × Nat) := [(0, .aload_n 0, 1, 0), (1, .getfield 36, 4, 0), (4, .aload_n 0, 5, 0), (5, .getfield 29, 8, 0), (8, .aload_n 0, 9, 0), (9, .iload_n 1, 10, 0), (10, .iload_n 2, 11, 0), (11, .invokevirtual 117, 14, 0), (14, .invokevirtual 121, 17, 0), (17, .ireturn, 18, 0)]
def M_ML_run : ax_M := (0, (some .int), tb_ML_run, [], false)
def m_ML_run : Nat := 5
def tb_ML_remark_1 : List (Nat × Instr × Nat × Nat) := [(0, .iload_n 2, 1, 0), (1, .ifCond .lt 8, 4, 9), (4, .iload_n 2, 5, 0), (5, .iconst 5, 6, 0), (6, .if_icmp .le 13, 9, 19), (9, .new 87, 12, 0), (12, .dup, 13, 0), (13, .ldc 125, 15, 0), (15, .invokespecial 91, 18, 0), (18, .athrow, 19, 0), (19, .aload_n 0, 20, 0), (20, .getfield 36, 23, 0), (23, .iload_n 1, 24, 0), (24, .invokevirtual 127, 27, 0), (27, .istore_n 3, 28, 0), (28, .iload_n 3, 29, 0), (29, .iconst (-1), 30, 0), (30, .if_icmp .ne 5, 33, 35), (33, .iconst (-1), 34, 0), (34, .ireturn, 35, 0), (35, .iload_n 2, 36, 0), (36, .lookupswitch 39 #[(0, 28), (2, 30)], 64, 0), (64, .iload_n 3, 65, 0), (65, .ireturn, 66, 0), (66, .aload_n 0, 67, 0), (67, .getfield 36, 70, 0), (70, .iload_n 1, 71, 0), (71, .invokevirtual 130, 74, 0), (74, .ireturn, 75, 0), (75, .aload_n 0, 76, 0)]
def tb_ML_remark_2 : List (Nat × Instr × Nat × Nat) := [(76, .getfield 29, 79, 0), (79, .iload_n 3, 80, 0), (80, .iload_n 2, 81, 0), (81, .invokevirtual 133, 84, 0), (84, .ireturn, 85, 0)]
def tb_ML_remark : List (Nat × Instr × Nat × Nat) := tb_ML_remark_1 ++ tb_ML_remark_2
def M_ML_remark : ax_M := (0, (some .int), tb_ML_remark, [], false)
def m_ML_remark : Nat := 6
def tb_ML_least : List (Nat × Instr × Nat × Nat) := [(0, .aload_n 0, 1, 0), (1, .iload_n 1, 2, 0), (2, .invokevirtual 137, 5, 0), (5, .aload_n 0, 6, 0), (6, .getfield 29, 9, 0), (9, .invokevirtual 141, 12, 0), (12, .ireturn, 13, 0)]
def M_ML_least : ax_M := (0, (some .int), tb_ML_least, [], false)
def m_ML_least : Nat := 7
def tb_ML_price : List (Nat × Instr × Nat × Nat) := [(0, .aload_n 0, 1, 0), (1, .iload_n 1, 2, 0), (2, .iload_n 2, 3, 0), (3, .invokevirtual 117, 6, 0), (6, .astore 5, 8, 0), (8, .lload_n 3, 9, 0), (9, .invokestatic 145, 12, 0), (12, .aload 5, 14, 0), (14, .lload_n 3, 15, 0), (15, .invokevirtual 149, 18, 0), (18, .lreturn, 19, 0)]
def M_ML_price : ax_M := (0, (some .long), tb_ML_price, [], false)
def m_ML_price : Nat := 8
def tb_ML_share_1 : List (Nat × Instr × Nat × Nat) := [(0, .lload_n 3, 1, 0), (1, .lconst 1, 2, 0), (2, .lcmp, 3, 0), (3, .ifCond .lt 17, 6, 20), (6, .lload_n 3, 7, 0), (7, .ldc2_w 94, 10, 0), (10, .lcmp, 11, 0), (11, .ifCond .gt 9, 14, 20), (14, .lload_n 1, 15, 0), (15, .lconst 0, 16, 0), (16, .lcmp, 17, 0), (17, .ifCond .ge 13, 20, 30), (20, .new 96, 23, 0), (23, .dup, 24, 0), (24, .ldc 155, 26, 0), (26, .invokespecial 100, 29, 0), (29, .athrow, 30, 0), (30, .iload 5, 32, 0), (32, .ifCond .lt 11, 35, 43), (35, .iload 5, 37, 0), (37, .i2l, 38, 0), (38, .lload_n 3, 39, 0), (39, .lcmp, 40, 0), (40, .ifCond .lt 13, 43, 53), (43, .new 87, 46, 0), (46, .dup, 47, 0), (47, .ldc 157, 49, 0), (49, .invokespecial 91, 52, 0), (52, .athrow, 53, 0), (53, .lload_n 1, 54, 0)]
def tb_ML_share_2 : List (Nat × Instr × Nat × Nat) := [(54, .lload_n 3, 55, 0), (55, .lrem, 56, 0), (56, .lstore 6, 58, 0), (58, .lload_n 1, 59, 0), (59, .lload_n 3, 60, 0), (60, .ldiv, 61, 0), (61, .iload 5, 63, 0), (63, .i2l, 64, 0), (64, .lload 6, 66, 0), (66, .lcmp, 67, 0), (67, .ifCond .ge 7, 70, 74), (70, .iconst 1, 71, 0), (71, .goto 4, 74, 75), (74, .iconst 0, 75, 0), (75, .i2l, 76, 0), (76, .ladd, 77, 0), (77, .lreturn, 78, 0)]
def tb_ML_share : List (Nat × Instr × Nat × Nat) := tb_ML_share_1 ++ tb_ML_share_2
def M_ML_share : ax_M := (0, (some .long), tb_ML_share, [], false)
def m_ML_share : Nat := 9
def tb_ML_balance_1 : List (Nat × Instr × Nat × Nat) := [(0, .iload_n 1, 1, 0), (1, .invokestatic 84, 4, 0), (4, .ifCond .ne 19, 7, 23), (7, .iload_n 2, 8, 0), (8, .invokestatic 159, 11, 0), (11, .ifCond .ne 12, 14, 23), (14, .iload_n 3, 15, 0), (15, .ifCond .lt 8, 18, 23), (18, .iload_n 3, 19, 0), (19, .iconst 1, 20, 0), (20, .if_icmp .le 13, 23, 33), (23, .new 87, 26, 0), (26, .dup, 27, 0), (27, .ldc 162, 29, 0), (29, .invokespecial 91, 32, 0), (32, .athrow, 33, 0), (33, .aload_n 0, 34, 0), (34, .getfield 57, 37, 0), (37, .iload_n 1, 38, 0), (38, .iload_n 2, 39, 0), (39, .invokevirtual 164, 42, 0), (42, .lstore 4, 44, 0), (44, .lload 4, 46, 0), (46, .invokestatic 168, 49, 0), (49, .ldc2_w 173, 52, 0), (52, .invokestatic 175, 55, 0), (55, .lstore 6, 57, 0), (57, .iload_n 3, 58, 0), (58, .ifCond .ne 8, 61, 66), (61, .lload 4, 63, 0)]
def tb_ML_balance_2 : List (Nat × Instr × Nat × Nat) := [(63, .goto 6, 66, 69), (66, .ldc2_w 173, 69, 0), (69, .lload 6, 71, 0), (71, .ldiv, 72, 0), (72, .lreturn, 73, 0)]
def tb_ML_balance : List (Nat × Instr × Nat × Nat) := tb_ML_balance_1 ++ tb_ML_balance_2
def M_ML_balance : ax_M := (0, (some .long), tb_ML_balance, [], false)
def m_ML_balance : Nat := 10
def tb_ML_quote : List (Nat × Instr × Nat × Nat) := [(0, .aload_n 0, 1, 0), (1, .getfield 43, 4, 0), (4, .iload_n 1, 5, 0), (5, .aload_n 0, 6, 0), (6, .iload_n 1, 7, 0), (7, .invokevirtual 137, 10, 0), (10, .lload_n 2, 11, 0), (11, .invokevirtual 179, 14, 0), (14, .ireturn, 15, 0)]
def M_ML_quote : ax_M := (0, (some .int), tb_ML_quote, [], false)
def m_ML_quote : Nat := 11
def tb_ML_copper_1 : List (Nat × Instr × Nat × Nat) := [(0, .iload_n 1, 1, 0), (1, .invokestatic 84, 4, 0), (4, .ifCond .ne 10, 7, 14), (7, .iload_n 2, 8, 0), (8, .invokestatic 159, 11, 0), (11, .ifCond .eq 13, 14, 24), (14, .new 87, 17, 0), (17, .dup, 18, 0), (18, .ldc 182, 20, 0), (20, .invokespecial 91, 23, 0), (23, .athrow, 24, 0), (24, .lload 5, 26, 0), (26, .lconst 1, 27, 0), (27, .lcmp, 28, 0), (28, .ifCond .lt 25, 31, 53), (31, .lload 5, 33, 0), (33, .ldc2_w 184, 36, 0), (36, .lcmp, 37, 0), (37, .ifCond .gt 16, 40, 53), (40, .lload_n 3, 41, 0), (41, .lconst 0, 42, 0), (42, .lcmp, 43, 0), (43, .ifCond .lt 10, 46, 53), (46, .lload_n 3, 47, 0), (47, .lload 5, 49, 0), (49, .lcmp, 50, 0), (50, .ifCond .le 13, 53, 63), (53, .new 96, 56, 0), (56, .dup, 57, 0), (57, .ldc 186, 59, 0)]
def tb_ML_copper_2 : List (Nat × Instr × Nat × Nat) := [(59, .invokespecial 100, 62, 0), (62, .athrow, 63, 0), (63, .aload_n 0, 64, 0), (64, .getfield 57, 67, 0), (67, .iload_n 1, 68, 0), (68, .iload_n 2, 69, 0), (69, .lload_n 3, 70, 0), (70, .l2i, 71, 0), (71, .lload 5, 73, 0), (73, .l2i, 74, 0), (74, .invokevirtual 188, 77, 0), (77, .ireturn, 78, 0)]
def tb_ML_copper : List (Nat × Instr × Nat × Nat) := tb_ML_copper_1 ++ tb_ML_copper_2
def M_ML_copper : ax_M := (0, (some .boolean), tb_ML_copper, [], false)
def m_ML_copper : Nat := 12
def tb_ML_best_1 : List (Nat × Instr × Nat × Nat) := [(0, .lload_n 1, 1, 0), (1, .invokestatic 145, 4, 0), (4, .iconst (-1), 5, 0), (5, .istore_n 3, 6, 0), (6, .lconst 0, 7, 0), (7, .lstore 4, 9, 0), (9, .iconst 0, 10, 0), (10, .istore 6, 12, 0), (12, .iload 6, 14, 0), (14, .iconst 4, 15, 0), (15, .if_icmp .ge 76, 18, 91), (18, .aload_n 0, 19, 0), (19, .getfield 18, 22, 0), (22, .iload 6, 24, 0), (24, .aaload, 25, 0), (25, .astore 7, 27, 0), (27, .aload 7, 29, 0), (29, .ifnonnull 7, 32, 36), (32, .aconst_null, 33, 0), (33, .goto 17, 36, 50), (36, .aload 7, 38, 0), (38, .aload 7, 40, 0), (40, .aload_n 0, 41, 0), (41, .getfield 29, 44, 0), (44, .invokevirtual 141, 47, 0), (47, .invokevirtual 192, 50, 0), (50, .astore 8, 52, 0), (52, .aload 8, 54, 0), (54, .ifnull 31, 57, 85), (57, .iload_n 3, 58, 0)]
def tb_ML_best_2 : List (Nat × Instr × Nat × Nat) := [(58, .iconst (-1), 59, 0), (59, .if_icmp .eq 15, 62, 74), (62, .aload 8, 64, 0), (64, .lload_n 1, 65, 0), (65, .invokevirtual 149, 68, 0), (68, .lload 4, 70, 0), (70, .lcmp, 71, 0), (71, .ifCond .ge 14, 74, 85), (74, .iload 6, 76, 0), (76, .istore_n 3, 77, 0), (77, .aload 8, 79, 0), (79, .lload_n 1, 80, 0), (80, .invokevirtual 149, 83, 0), (83, .lstore 4, 85, 0), (85, .iinc 6 1, 88, 0), (88, .goto (-76), 91, 12), (91, .iload_n 3, 92, 0), (92, .ireturn, 93, 0)]
def tb_ML_best : List (Nat × Instr × Nat × Nat) := tb_ML_best_1 ++ tb_ML_best_2
def M_ML_best : ax_M := (0, (some .int), tb_ML_best, [], false)
def m_ML_best : Nat := 13
def tb_ML_order_1 : List (Nat × Instr × Nat × Nat) := [(0, .aload_n 0, 1, 0), (1, .iload_n 1, 2, 0), (2, .invokevirtual 137, 5, 0), (5, .astore 6, 7, 0), (7, .lload_n 2, 8, 0), (8, .invokestatic 145, 11, 0), (11, .aload_n 0, 12, 0), (12, .getfield 43, 15, 0), (15, .iload_n 1, 16, 0), (16, .lload 4, 18, 0), (18, .invokevirtual 196, 21, 0), (21, .istore 7, 23, 0), (23, .aload_n 0, 24, 0), (24, .getfield 43, 27, 0), (27, .iload 7, 29, 0), (29, .invokevirtual 200, 32, 0), (32, .astore 8, 34, 0), (34, .aload 8, 36, 0), (36, .ifnonnull 8, 39, 44), (39, .aload 6, 41, 0), (41, .goto 5, 44, 46), (44, .aload 8, 46, 0), (46, .astore 9, 48, 0), (48, .aload 9, 50, 0), (50, .aload_n 0, 51, 0), (51, .getfield 29, 54, 0), (54, .invokevirtual 141, 57, 0), (57, .istore 10, 59, 0), (59, .aload 9, 61, 0), (61, .iload 10, 63, 0)]
def tb_ML_order_2 : List (Nat × Instr × Nat × Nat) := [(63, .invokevirtual 192, 66, 0), (66, .astore 11, 68, 0), (68, .aload 11, 70, 0), (70, .ifnonnull 5, 73, 75), (73, .iconst (-1), 74, 0), (74, .ireturn, 75, 0), (75, .aload_n 0, 76, 0), (76, .getfield 50, 79, 0), (79, .iload_n 1, 80, 0), (80, .iload 10, 82, 0), (82, .lload_n 2, 83, 0), (83, .l2i, 84, 0), (84, .aload 11, 86, 0), (86, .getfield 203, 89, 0), (89, .aload 11, 91, 0), (91, .lload_n 2, 92, 0), (92, .invokevirtual 149, 95, 0), (95, .iload 7, 97, 0), (97, .invokevirtual 206, 100, 0), (100, .ireturn, 101, 0)]
def tb_ML_order : List (Nat × Instr × Nat × Nat) := tb_ML_order_1 ++ tb_ML_order_2
def M_ML_order : ax_M := (0, (some .int), tb_ML_order, [], false)
def m_ML_order : Nat := 14
def tb_ML_history : List (Nat × Instr × Nat × Nat) := [(0, .aload_n 0, 1, 0), (1, .getfield 50, 4, 0), (4, .iload_n 1, 5, 0), (5, .invokevirtual 209, 8, 0), (8, .ifCond .ne 13, 11, 21), (11, .iload_n 2, 12, 0), (12, .ifCond .lt 9, 15, 21), (15, .iload_n 2, 16, 0), (16, .bipush 7, 18, 0), (18, .if_icmp .lt 13, 21, 31), (21, .new 87, 24, 0), (24, .dup, 25, 0), (25, .ldc 210, 27, 0), (27, .invokespecial 91, 30, 0), (30, .athrow, 31, 0), (31, .aload_n 0, 32, 0), (32, .getfield 50, 35, 0), (35, .iload_n 1, 36, 0), (36, .iload_n 2, 37, 0), (37, .invokevirtual 212, 40, 0), (40, .ireturn, 41, 0)]
def M_ML_history : ax_M := (0, (some .int), tb_ML_history, [], false)
def m_ML_history : Nat := 15
def tb_ML_clear_1 : List (Nat × Instr × Nat × Nat) := [(0, .aload_n 0, 1, 0), (1, .getfield 10, 4, 0), (4, .invokevirtual 81, 7, 0), (7, .iconst 0, 8, 0), (8, .istore_n 1, 9, 0), (9, .iload_n 1, 10, 0), (10, .iconst 4, 11, 0), (11, .if_icmp .ge 16, 14, 27), (14, .aload_n 0, 15, 0), (15, .getfield 18, 18, 0), (18, .iload_n 1, 19, 0), (19, .aconst_null, 20, 0), (20, .aastore, 21, 0), (21, .iinc 1 1, 24, 0), (24, .goto (-15), 27, 9), (27, .aload_n 0, 28, 0), (28, .iconst 0, 29, 0), (29, .putfield 22, 32, 0), (32, .aload_n 0, 33, 0), (33, .getfield 29, 36, 0), (36, .invokevirtual 213, 39, 0), (39, .aload_n 0, 40, 0), (40, .getfield 36, 43, 0), (43, .invokevirtual 214, 46, 0), (46, .aload_n 0, 47, 0), (47, .getfield 43, 50, 0), (50, .invokevirtual 215, 53, 0), (53, .aload_n 0, 54, 0), (54, .getfield 50, 57, 0), (57, .invokevirtual 216, 60, 0)]
def tb_ML_clear_2 : List (Nat × Instr × Nat × Nat) := [(60, .aload_n 0, 61, 0), (61, .getfield 57, 64, 0), (64, .invokevirtual 217, 67, 0), (67, .return_, 68, 0)]
def tb_ML_clear : List (Nat × Instr × Nat × Nat) := tb_ML_clear_1 ++ tb_ML_clear_2
def M_ML_clear : ax_M := (0, none, tb_ML_clear, [], false)
def m_ML_clear : Nat := 16
def tb_ML_keepOffer : List (Nat × Instr × Nat × Nat) := [(0, .iload_n 1, 1, 0), (1, .ifCond .lt 8, 4, 9), (4, .iload_n 1, 5, 0), (5, .iconst 4, 6, 0), (6, .if_icmp .lt 4, 9, 10), (9, .return_, 10, 0), (10, .aload_n 0, 11, 0), (11, .getfield 18, 14, 0), (14, .iload_n 1, 15, 0), (15, .aload_n 2, 16, 0), (16, .aastore, 17, 0), (17, .aload_n 0, 18, 0), (18, .aload_n 0, 19, 0), (19, .getfield 22, 22, 0), (22, .iload_n 1, 23, 0), (23, .iconst 1, 24, 0), (24, .iadd, 25, 0), (25, .invokestatic 218, 28, 0), (28, .putfield 22, 31, 0), (31, .return_, 32, 0)]
def M_ML_keepOffer : ax_M := (0, none, tb_ML_keepOffer, [], false)
def m_ML_keepOffer : Nat := 17
def tb_ML_offerOf : List (Nat × Instr × Nat × Nat) := [(0, .iload_n 1, 1, 0), (1, .ifCond .lt 8, 4, 9), (4, .iload_n 1, 5, 0), (5, .iconst 4, 6, 0), (6, .if_icmp .lt 7, 9, 13), (9, .aconst_null, 10, 0), (10, .goto 9, 13, 19), (13, .aload_n 0, 14, 0), (14, .getfield 18, 17, 0), (17, .iload_n 1, 18, 0), (18, .aaload, 19, 0), (19, .astore_n 2, 20, 0), (20, .aload_n 2, 21, 0), (21, .ifnonnull 13, 24, 34), (24, .new 87, 27, 0), (27, .dup, 28, 0), (28, .ldc 221, 30, 0), (30, .invokespecial 91, 33, 0), (33, .athrow, 34, 0), (34, .aload_n 2, 35, 0), (35, .areturn, 36, 0)]
def M_ML_offerOf : ax_M := (0, (some (.object "MakingLimits$Offer")), tb_ML_offerOf, [], false)
def m_ML_offerOf : Nat := 18
def tb_ML_gradeOf : List (Nat × Instr × Nat × Nat) := [(0, .aload_n 0, 1, 0), (1, .iload_n 1, 2, 0), (2, .invokevirtual 137, 5, 0), (5, .iload_n 2, 6, 0), (6, .invokevirtual 192, 9, 0), (9, .astore_n 3, 10, 0), (10, .aload_n 3, 11, 0), (11, .ifnonnull 13, 14, 24), (14, .new 87, 17, 0), (17, .dup, 18, 0), (18, .ldc 223, 20, 0), (20, .invokespecial 91, 23, 0), (23, .athrow, 24, 0), (24, .aload_n 3, 25, 0), (25, .areturn, 26, 0)]
def M_ML_gradeOf : ax_M := (0, (some (.object "MakingLimits$Grade")), tb_ML_gradeOf, [], false)
def m_ML_gradeOf : Nat := 19
def tb_ML_checkQuantity : List (Nat × Instr × Nat × Nat) := [(0, .lload_n 0, 1, 0), (1, .lconst 1, 2, 0), (2, .lcmp, 3, 0), (3, .ifCond .lt 11, 6, 14), (6, .lload_n 0, 7, 0), (7, .ldc2_w 94, 10, 0), (10, .lcmp, 11, 0), (11, .ifCond .le 13, 14, 24), (14, .new 96, 17, 0), (17, .dup, 18, 0), (18, .ldc 225, 20, 0), (20, .invokespecial 100, 23, 0), (23, .athrow, 24, 0), (24, .return_, 25, 0)]
def M_ML_checkQuantity : ax_M := (0, none, tb_ML_checkQuantity, [], false)
def m_ML_checkQuantity : Nat := 20
def tb_ML_isNoLayer : List (Nat × Instr × Nat × Nat) := [(0, .iload_n 0, 1, 0), (1, .ifCond .lt 9, 4, 10), (4, .iload_n 0, 5, 0), (5, .bipush 8, 7, 0), (7, .if_icmp .lt 7, 10, 14), (10, .iconst 1, 11, 0), (11, .goto 4, 14, 15), (14, .iconst 0, 15, 0), (15, .ireturn, 16, 0)]
def M_ML_isNoLayer : ax_M := (0, (some .boolean), tb_ML_isNoLayer, [], false)
def m_ML_isNoLayer : Nat := 21
def tb_ML_commonDivisor : List (Nat × Instr × Nat × Nat) := [(0, .lload_n 0, 1, 0), (1, .lstore 4, 3, 0), (3, .lload_n 2, 4, 0), (4, .lstore 6, 6, 0), (6, .iconst 0, 7, 0), (7, .istore 8, 9, 0), (9, .iload 8, 11, 0), (11, .bipush 100, 13, 0), (13, .if_icmp .ge 31, 16, 44), (16, .lload 6, 18, 0), (18, .lconst 0, 19, 0), (19, .lcmp, 20, 0), (20, .ifCond .eq 24, 23, 44), (23, .lload 4, 25, 0), (25, .lload 6, 27, 0), (27, .lrem, 28, 0), (28, .lstore 9, 30, 0), (30, .lload 6, 32, 0), (32, .lstore 4, 34, 0), (34, .lload 9, 36, 0), (36, .lstore 6, 38, 0), (38, .iinc 8 1, 41, 0), (41, .goto (-32), 44, 9), (44, .lload 4, 46, 0), (46, .lconst 1, 47, 0), (47, .invokestatic 227, 50, 0), (50, .lreturn, 51, 0)]
def M_ML_commonDivisor : ax_M := (0, (some .long), tb_ML_commonDivisor, [], false)
def m_ML_commonDivisor : Nat := 22
def tb_Bd_init : List (Nat × Instr × Nat × Nat) := [(0, .aload_n 0, 1, 0), (1, .invokespecial 3, 4, 0), (4, .aload_n 0, 5, 0), (5, .bipush 60, 7, 0), (7, .newarray .int, 9, 0), (9, .putfield 11, 12, 0), (12, .aload_n 0, 13, 0), (13, .bipush 60, 15, 0), (15, .newarray .int, 17, 0), (17, .putfield 15, 20, 0), (20, .aload_n 0, 21, 0), (21, .bipush 60, 23, 0), (23, .newarray .int, 25, 0), (25, .putfield 18, 28, 0), (28, .aload_n 0, 29, 0), (29, .bipush 60, 31, 0), (31, .newarray .int, 33, 0), (33, .putfield 21, 36, 0), (36, .aload_n 0, 37, 0), (37, .bipush 60, 39, 0), (39, .newarray .int, 41, 0), (41, .putfield 24, 44, 0), (44, .return_, 45, 0)]
def M_Bd_init : ax_M := (1, none, tb_Bd_init, [], true)
def m_Bd_init : Nat := 23
def tb_Bd_add_1 : List (Nat × Instr × Nat × Nat) := [(0, .aload_n 0, 1, 0), (1, .getfield 27, 4, 0), (4, .bipush 60, 6, 0), (6, .if_icmp .lt 5, 9, 11), (9, .iconst (-1), 10, 0), (10, .ireturn, 11, 0), (11, .aload_n 0, 12, 0), (12, .getfield 11, 15, 0), (15, .aload_n 0, 16, 0), (16, .getfield 27, 19, 0), (19, .iload_n 1, 20, 0), (20, .iastore, 21, 0), (21, .aload_n 0, 22, 0), (22, .getfield 15, 25, 0), (25, .aload_n 0, 26, 0), (26, .getfield 27, 29, 0), (29, .iload_n 2, 30, 0), (30, .iastore, 31, 0), (31, .aload_n 0, 32, 0), (32, .getfield 18, 35, 0), (35, .aload_n 0, 36, 0), (36, .getfield 27, 39, 0), (39, .iload_n 3, 40, 0), (40, .iastore, 41, 0), (41, .aload_n 0, 42, 0), (42, .getfield 21, 45, 0), (45, .aload_n 0, 46, 0), (46, .getfield 27, 49, 0), (49, .iconst 0, 50, 0), (50, .iastore, 51, 0)]
def tb_Bd_add_2 : List (Nat × Instr × Nat × Nat) := [(51, .aload_n 0, 52, 0), (52, .getfield 24, 55, 0), (55, .aload_n 0, 56, 0), (56, .getfield 27, 59, 0), (59, .iconst 0, 60, 0), (60, .iastore, 61, 0), (61, .aload_n 0, 62, 0), (62, .dup, 63, 0), (63, .getfield 27, 66, 0), (66, .iconst 1, 67, 0), (67, .iadd, 68, 0), (68, .putfield 27, 71, 0), (71, .aload_n 0, 72, 0), (72, .getfield 27, 75, 0), (75, .iconst 1, 76, 0), (76, .isub, 77, 0), (77, .ireturn, 78, 0)]
def tb_Bd_add : List (Nat × Instr × Nat × Nat) := tb_Bd_add_1 ++ tb_Bd_add_2
def M_Bd_add : ax_M := (1, (some .int), tb_Bd_add, [], false)
def m_Bd_add : Nat := 24
def tb_Bd_hasNo : List (Nat × Instr × Nat × Nat) := [(0, .iload_n 1, 1, 0), (1, .ifCond .lt 11, 4, 12), (4, .iload_n 1, 5, 0), (5, .aload_n 0, 6, 0), (6, .getfield 27, 9, 0), (9, .if_icmp .lt 7, 12, 16), (12, .iconst 1, 13, 0), (13, .goto 4, 16, 17), (16, .iconst 0, 17, 0), (17, .ireturn, 18, 0)]
def M_Bd_hasNo : ax_M := (1, (some .boolean), tb_Bd_hasNo, [], false)
def m_Bd_hasNo : Nat := 25
def tb_Bd_move_1 : List (Nat × Instr × Nat × Nat) := [(0, .aload_n 0, 1, 0), (1, .iload_n 1, 2, 0), (2, .invokevirtual 31, 5, 0), (5, .ifCond .eq 5, 8, 10), (8, .iconst 0, 9, 0), (9, .ireturn, 10, 0), (10, .aload_n 0, 11, 0), (11, .getfield 21, 14, 0), (14, .iload_n 1, 15, 0), (15, .iaload, 16, 0), (16, .iload_n 2, 17, 0), (17, .if_icmp .ne 13, 20, 30), (20, .aload_n 0, 21, 0), (21, .getfield 24, 24, 0), (24, .iload_n 1, 25, 0), (25, .iaload, 26, 0), (26, .iload_n 3, 27, 0), (27, .if_icmp .eq 7, 30, 34), (30, .iconst 1, 31, 0), (31, .goto 4, 34, 35), (34, .iconst 0, 35, 0), (35, .istore 4, 37, 0), (37, .aload_n 0, 38, 0), (38, .getfield 21, 41, 0), (41, .iload_n 1, 42, 0), (42, .iload_n 2, 43, 0), (43, .iastore, 44, 0), (44, .aload_n 0, 45, 0), (45, .getfield 24, 48, 0), (48, .iload_n 1, 49, 0)]
def tb_Bd_move_2 : List (Nat × Instr × Nat × Nat) := [(49, .iload_n 3, 50, 0), (50, .iastore, 51, 0), (51, .iload 4, 53, 0), (53, .ireturn, 54, 0)]
def tb_Bd_move : List (Nat × Instr × Nat × Nat) := tb_Bd_move_1 ++ tb_Bd_move_2
def M_Bd_move : ax_M := (1, (some .boolean), tb_Bd_move, [], false)
def m_Bd_move : Nat := 26
def tb_Bd_excess : List (Nat × Instr × Nat × Nat) := [(0, .aload_n 0, 1, 0), (1, .iload_n 1, 2, 0), (2, .invokevirtual 31, 5, 0), (5, .ifCond .eq 7, 8, 12), (8, .iconst 0, 9, 0), (9, .goto 19, 12, 28), (12, .aload_n 2, 13, 0), (13, .aload_n 0, 14, 0), (14, .getfield 11, 17, 0), (17, .iload_n 1, 18, 0), (18, .iaload, 19, 0), (19, .aload_n 0, 20, 0), (20, .getfield 15, 23, 0), (23, .iload_n 1, 24, 0), (24, .iaload, 25, 0), (25, .invokevirtual 35, 28, 0), (28, .ireturn, 29, 0)]
def M_Bd_excess : ax_M := (1, (some .int), tb_Bd_excess, [], false)
def m_Bd_excess : Nat := 27
def tb_Bd_isMadeBy : List (Nat × Instr × Nat × Nat) := [(0, .iconst 0, 1, 0), (1, .istore_n 2, 2, 0), (2, .iload_n 2, 3, 0), (3, .aload_n 0, 4, 0), (4, .getfield 27, 7, 0), (7, .if_icmp .ge 20, 10, 27), (10, .aload_n 0, 11, 0), (11, .iload_n 2, 12, 0), (12, .aload_n 1, 13, 0), (13, .invokevirtual 41, 16, 0), (16, .ifCond .le 5, 19, 21), (19, .iconst 0, 20, 0), (20, .ireturn, 21, 0), (21, .iinc 2 1, 24, 0), (24, .goto (-22), 27, 2), (27, .iconst 1, 28, 0), (28, .ireturn, 29, 0)]
def M_Bd_isMadeBy : ax_M := (1, (some .boolean), tb_Bd_isMadeBy, [], false)
def m_Bd_isMadeBy : Nat := 28
def tb_Bd_part : List (Nat × Instr × Nat × Nat) := [(0, .aload_n 0, 1, 0), (1, .iload_n 1, 2, 0), (2, .invokevirtual 31, 5, 0), (5, .ifCond .eq 5, 8, 10), (8, .iconst (-1), 9, 0), (9, .ireturn, 10, 0), (10, .iload_n 2, 11, 0), (11, .tableswitch 61 1 5 #[33, 61, 40, 47, 54], 44, 0), (44, .aload_n 0, 45, 0), (45, .getfield 11, 48, 0), (48, .iload_n 1, 49, 0), (49, .iaload, 50, 0), (50, .ireturn, 51, 0), (51, .aload_n 0, 52, 0), (52, .getfield 18, 55, 0), (55, .iload_n 1, 56, 0), (56, .iaload, 57, 0), (57, .ireturn, 58, 0), (58, .aload_n 0, 59, 0), (59, .getfield 21, 62, 0), (62, .iload_n 1, 63, 0), (63, .iaload, 64, 0), (64, .ireturn, 65, 0), (65, .aload_n 0, 66, 0), (66, .getfield 24, 69, 0), (69, .iload_n 1, 70, 0), (70, .iaload, 71, 0), (71, .ireturn, 72, 0), (72, .iconst (-1), 73, 0), (73, .ireturn, 74, 0)]
def M_Bd_part : ax_M := (1, (some .int), tb_Bd_part, [], false)
def m_Bd_part : Nat := 29
def tb_Bd_forget : List (Nat × Instr × Nat × Nat) := [(0, .aload_n 0, 1, 0), (1, .iconst 0, 2, 0), (2, .putfield 27, 5, 0), (5, .return_, 6, 0)]
def M_Bd_forget : ax_M := (1, none, tb_Bd_forget, [], false)
def m_Bd_forget : Nat := 30
def tb_Ce_init : List (Nat × Instr × Nat × Nat) := [(0, .aload_n 0, 1, 0), (1, .invokespecial 5, 4, 0), (4, .aload_n 0, 5, 0), (5, .sipush 128, 8, 0), (8, .newarray .int, 10, 0), (10, .putfield 11, 13, 0), (13, .aload_n 0, 14, 0), (14, .sipush 128, 17, 0), (17, .newarray .int, 19, 0), (19, .putfield 15, 22, 0), (22, .aload_n 0, 23, 0), (23, .getfield 15, 26, 0), (26, .iconst 1, 27, 0), (27, .invokestatic 18, 30, 0), (30, .return_, 31, 0)]
def M_Ce_init : ax_M := (2, none, tb_Ce_init, [], true)
def m_Ce_init : Nat := 31
def tb_Ce_isNoCell : List (Nat × Instr × Nat × Nat) := [(0, .iload_n 0, 1, 0), (1, .ifCond .lt 9, 4, 10), (4, .iload_n 0, 5, 0), (5, .bipush 16, 7, 0), (7, .if_icmp .lt 7, 10, 14), (10, .iconst 1, 11, 0), (11, .goto 4, 14, 15), (14, .iconst 0, 15, 0), (15, .ireturn, 16, 0)]
def M_Ce_isNoCell : ax_M := (2, (some .boolean), tb_Ce_isNoCell, [], false)
def m_Ce_isNoCell : Nat := 32
def tb_Ce_tell_1 : List (Nat × Instr × Nat × Nat) := [(0, .iload_n 1, 1, 0), (1, .invokestatic 24, 4, 0), (4, .ifCond .ne 10, 7, 14), (7, .iload_n 2, 8, 0), (8, .invokestatic 28, 11, 0), (11, .ifCond .eq 5, 14, 16), (14, .iconst 0, 15, 0), (15, .ireturn, 16, 0), (16, .iload_n 1, 17, 0), (17, .bipush 16, 19, 0), (19, .imul, 20, 0), (20, .iload_n 2, 21, 0), (21, .iadd, 22, 0), (22, .istore 5, 24, 0), (24, .aload_n 0, 25, 0), (25, .getfield 11, 28, 0), (28, .iload 5, 30, 0), (30, .iaload, 31, 0), (31, .iload_n 3, 32, 0), (32, .if_icmp .ne 15, 35, 47), (35, .aload_n 0, 36, 0), (36, .getfield 15, 39, 0), (39, .iload 5, 41, 0), (41, .iaload, 42, 0), (42, .iload 4, 44, 0), (44, .if_icmp .eq 7, 47, 51), (47, .iconst 1, 48, 0), (48, .goto 4, 51, 52), (51, .iconst 0, 52, 0), (52, .istore 6, 54, 0)]
def tb_Ce_tell_2 : List (Nat × Instr × Nat × Nat) := [(54, .aload_n 0, 55, 0), (55, .getfield 11, 58, 0), (58, .iload 5, 60, 0), (60, .iload_n 3, 61, 0), (61, .iastore, 62, 0), (62, .aload_n 0, 63, 0), (63, .getfield 15, 66, 0), (66, .iload 5, 68, 0), (68, .iload 4, 70, 0), (70, .iastore, 71, 0), (71, .iload 6, 73, 0), (73, .ireturn, 74, 0)]
def tb_Ce_tell : List (Nat × Instr × Nat × Nat) := tb_Ce_tell_1 ++ tb_Ce_tell_2
def M_Ce_tell : ax_M := (2, (some .boolean), tb_Ce_tell, [], false)
def m_Ce_tell : Nat := 33
def tb_Ce_aboveMean : List (Nat × Instr × Nat × Nat) := [(0, .lconst 0, 1, 0), (1, .lstore_n 3, 2, 0), (2, .iconst 0, 3, 0), (3, .istore 5, 5, 0), (5, .iload 5, 7, 0), (7, .bipush 16, 9, 0), (9, .if_icmp .ge 19, 12, 28), (12, .lload_n 3, 13, 0), (13, .aload_n 0, 14, 0), (14, .iload_n 1, 15, 0), (15, .iload 5, 17, 0), (17, .invokevirtual 31, 20, 0), (20, .ladd, 21, 0), (21, .lstore_n 3, 22, 0), (22, .iinc 5 1, 25, 0), (25, .goto (-20), 28, 5), (28, .ldc2_w 35, 31, 0), (31, .aload_n 0, 32, 0), (32, .iload_n 1, 33, 0), (33, .iload_n 2, 34, 0), (34, .invokevirtual 31, 37, 0), (37, .lmul, 38, 0), (38, .lload_n 3, 39, 0), (39, .lsub, 40, 0), (40, .lreturn, 41, 0)]
def M_Ce_aboveMean : ax_M := (2, (some .long), tb_Ce_aboveMean, [], false)
def m_Ce_aboveMean : Nat := 34
def tb_Ce_units_1 : List (Nat × Instr × Nat × Nat) := [(0, .iload_n 1, 1, 0), (1, .invokestatic 24, 4, 0), (4, .ifCond .ne 10, 7, 14), (7, .iload_n 2, 8, 0), (8, .invokestatic 28, 11, 0), (11, .ifCond .eq 5, 14, 16), (14, .lconst 0, 15, 0), (15, .lreturn, 16, 0), (16, .iload_n 1, 17, 0), (17, .bipush 16, 19, 0), (19, .imul, 20, 0), (20, .iload_n 2, 21, 0), (21, .iadd, 22, 0), (22, .istore_n 3, 23, 0), (23, .aload_n 0, 24, 0), (24, .getfield 15, 27, 0), (27, .iload_n 3, 28, 0), (28, .iaload, 29, 0), (29, .istore 4, 31, 0), (31, .iload 4, 33, 0), (33, .iconst 1, 34, 0), (34, .if_icmp .ge 7, 37, 41), (37, .lconst 0, 38, 0), (38, .goto 18, 41, 56), (41, .aload_n 0, 42, 0), (42, .getfield 11, 45, 0), (45, .iload_n 3, 46, 0), (46, .iaload, 47, 0), (47, .i2l, 48, 0), (48, .sipush 2520, 51, 0)]
def tb_Ce_units_2 : List (Nat × Instr × Nat × Nat) := [(51, .iload 4, 53, 0), (53, .idiv, 54, 0), (54, .i2l, 55, 0), (55, .lmul, 56, 0), (56, .lreturn, 57, 0)]
def tb_Ce_units : List (Nat × Instr × Nat × Nat) := tb_Ce_units_1 ++ tb_Ce_units_2
def M_Ce_units : ax_M := (2, (some .long), tb_Ce_units, [], false)
def m_Ce_units : Nat := 35
def tb_Ce_forget : List (Nat × Instr × Nat × Nat) := [(0, .aload_n 0, 1, 0), (1, .getfield 11, 4, 0), (4, .iconst 0, 5, 0), (5, .invokestatic 18, 8, 0), (8, .aload_n 0, 9, 0), (9, .getfield 15, 12, 0), (12, .iconst 1, 13, 0), (13, .invokestatic 18, 16, 0), (16, .return_, 17, 0)]
def M_Ce_forget : ax_M := (2, none, tb_Ce_forget, [], false)
def m_Ce_forget : Nat := 36
def tb_Gr_init : List (Nat × Instr × Nat × Nat) := [(0, .aload_n 0, 1, 0), (1, .invokespecial 3, 4, 0), (4, .aload_n 0, 5, 0), (5, .bipush 6, 7, 0), (7, .newarray .int, 9, 0), (9, .putfield 9, 12, 0), (12, .aload_n 0, 13, 0), (13, .iconst 4, 14, 0), (14, .newarray .int, 16, 0), (16, .putfield 15, 19, 0), (19, .aload_n 0, 20, 0), (20, .iconst 4, 21, 0), (21, .newarray .int, 23, 0), (23, .putfield 18, 26, 0), (26, .aload_n 0, 27, 0), (27, .iconst 1, 28, 0), (28, .putfield 21, 31, 0), (31, .return_, 32, 0)]
def M_Gr_init : ax_M := (3, none, tb_Gr_init, [], true)
def m_Gr_init : Nat := 37
def tb_Gr_setLimit : List (Nat × Instr × Nat × Nat) := [(0, .iload_n 1, 1, 0), (1, .ifCond .lt 15, 4, 16), (4, .iload_n 1, 5, 0), (5, .bipush 6, 7, 0), (7, .if_icmp .ge 9, 10, 16), (10, .iload_n 2, 11, 0), (11, .ldc 25, 13, 0), (13, .if_icmp .le 9, 16, 22), (16, .aload_n 0, 17, 0), (17, .iconst 0, 18, 0), (18, .putfield 21, 21, 0), (21, .return_, 22, 0), (22, .aload_n 0, 23, 0), (23, .getfield 9, 26, 0), (26, .iload_n 1, 27, 0), (27, .iload_n 2, 28, 0), (28, .iastore, 29, 0), (29, .return_, 30, 0)]
def M_Gr_setLimit : ax_M := (3, none, tb_Gr_setLimit, [], false)
def m_Gr_setLimit : Nat := 38
def tb_Gr_addStep_1 : List (Nat × Instr × Nat × Nat) := [(0, .aload_n 0, 1, 0), (1, .getfield 26, 4, 0), (4, .ifCond .ne 7, 7, 11), (7, .iconst 0, 8, 0), (8, .goto 14, 11, 22), (11, .aload_n 0, 12, 0), (12, .getfield 15, 15, 0), (15, .aload_n 0, 16, 0), (16, .getfield 26, 19, 0), (19, .iconst 1, 20, 0), (20, .isub, 21, 0), (21, .iaload, 22, 0), (22, .istore_n 3, 23, 0), (23, .aload_n 0, 24, 0), (24, .getfield 26, 27, 0), (27, .iconst 4, 28, 0), (28, .if_icmp .ge 25, 31, 53), (31, .iload_n 1, 32, 0), (32, .iload_n 3, 33, 0), (33, .if_icmp .le 20, 36, 53), (36, .iload_n 1, 37, 0), (37, .ldc 25, 39, 0), (39, .if_icmp .gt 14, 42, 53), (42, .iload_n 2, 43, 0), (43, .iconst 1, 44, 0), (44, .if_icmp .lt 9, 47, 53), (47, .iload_n 2, 48, 0), (48, .ldc 25, 50, 0), (50, .if_icmp .le 9, 53, 59), (53, .aload_n 0, 54, 0)]
def tb_Gr_addStep_2 : List (Nat × Instr × Nat × Nat) := [(54, .iconst 0, 55, 0), (55, .putfield 21, 58, 0), (58, .return_, 59, 0), (59, .aload_n 0, 60, 0), (60, .getfield 15, 63, 0), (63, .aload_n 0, 64, 0), (64, .getfield 26, 67, 0), (67, .iload_n 1, 68, 0), (68, .iastore, 69, 0), (69, .aload_n 0, 70, 0), (70, .getfield 18, 73, 0), (73, .aload_n 0, 74, 0), (74, .getfield 26, 77, 0), (77, .iload_n 2, 78, 0), (78, .iastore, 79, 0), (79, .aload_n 0, 80, 0), (80, .dup, 81, 0), (81, .getfield 26, 84, 0), (84, .iconst 1, 85, 0), (85, .iadd, 86, 0), (86, .putfield 26, 89, 0), (89, .return_, 90, 0)]
def tb_Gr_addStep : List (Nat × Instr × Nat × Nat) := tb_Gr_addStep_1 ++ tb_Gr_addStep_2
def M_Gr_addStep : ax_M := (3, none, tb_Gr_addStep, [], false)
def m_Gr_addStep : Nat := 39
def tb_Gr_setDays : List (Nat × Instr × Nat × Nat) := [(0, .iload_n 1, 1, 0), (1, .sipush 1000, 4, 0), (4, .if_icmp .le 9, 7, 13), (7, .aload_n 0, 8, 0), (8, .iconst 0, 9, 0), (9, .putfield 21, 12, 0), (12, .return_, 13, 0), (13, .aload_n 0, 14, 0), (14, .iload_n 1, 15, 0), (15, .putfield 30, 18, 0), (18, .return_, 19, 0)]
def M_Gr_setDays : ax_M := (3, none, tb_Gr_setDays, [], false)
def m_Gr_setDays : Nat := 40
def tb_Gr_excess : List (Nat × Instr × Nat × Nat) := [(0, .iload_n 1, 1, 0), (1, .ifCond .lt 9, 4, 10), (4, .iload_n 1, 5, 0), (5, .bipush 6, 7, 0), (7, .if_icmp .lt 5, 10, 12), (10, .iconst 0, 11, 0), (11, .ireturn, 12, 0), (12, .iload_n 2, 13, 0), (13, .aload_n 0, 14, 0), (14, .getfield 9, 17, 0), (17, .iload_n 1, 18, 0), (18, .iaload, 19, 0), (19, .isub, 20, 0), (20, .istore_n 3, 21, 0), (21, .iload_n 1, 22, 0), (22, .iconst 4, 23, 0), (23, .if_icmp .ge 8, 26, 31), (26, .iload_n 3, 27, 0), (27, .ineg, 28, 0), (28, .goto 4, 31, 32), (31, .iload_n 3, 32, 0), (32, .ireturn, 33, 0)]
def M_Gr_excess : ax_M := (3, (some .int), tb_Gr_excess, [], false)
def m_Gr_excess : Nat := 41
def tb_Gr_priceOf_1 : List (Nat × Instr × Nat × Nat) := [(0, .lload_n 1, 1, 0), (1, .aload_n 0, 2, 0), (2, .getfield 15, 5, 0), (5, .iconst 0, 6, 0), (6, .iaload, 7, 0), (7, .i2l, 8, 0), (8, .invokestatic 33, 11, 0), (11, .lstore_n 3, 12, 0), (12, .aload_n 0, 13, 0), (13, .getfield 18, 16, 0), (16, .iconst 0, 17, 0), (17, .iaload, 18, 0), (18, .i2l, 19, 0), (19, .lstore 5, 21, 0), (21, .iconst 1, 22, 0), (22, .istore 7, 24, 0), (24, .iload 7, 26, 0), (26, .aload_n 0, 27, 0), (27, .getfield 26, 30, 0), (30, .if_icmp .ge 32, 33, 62), (33, .aload_n 0, 34, 0), (34, .getfield 15, 37, 0), (37, .iload 7, 39, 0), (39, .iaload, 40, 0), (40, .i2l, 41, 0), (41, .lload_n 3, 42, 0), (42, .lcmp, 43, 0), (43, .ifCond .gt 13, 46, 56), (46, .aload_n 0, 47, 0), (47, .getfield 18, 50, 0)]
def tb_Gr_priceOf_2 : List (Nat × Instr × Nat × Nat) := [(50, .iload 7, 52, 0), (52, .iaload, 53, 0), (53, .i2l, 54, 0), (54, .lstore 5, 56, 0), (56, .iinc 7 1, 59, 0), (59, .goto (-35), 62, 24), (62, .lload_n 3, 63, 0), (63, .lload 5, 65, 0), (65, .lmul, 66, 0), (66, .lreturn, 67, 0)]
def tb_Gr_priceOf : List (Nat × Instr × Nat × Nat) := tb_Gr_priceOf_1 ++ tb_Gr_priceOf_2
def M_Gr_priceOf : ax_M := (3, (some .long), tb_Gr_priceOf, [], false)
def m_Gr_priceOf : Nat := 42
def tb_Of_init : List (Nat × Instr × Nat × Nat) := [(0, .aload_n 0, 1, 0), (1, .invokespecial 3, 4, 0), (4, .aload_n 0, 5, 0), (5, .iconst 4, 6, 0), (6, .anewarray 9, 9, 0), (9, .putfield 11, 12, 0), (12, .return_, 13, 0)]
def M_Of_init : ax_M := (4, none, tb_Of_init, [], true)
def m_Of_init : Nat := 43
def tb_Of_add : List (Nat × Instr × Nat × Nat) := [(0, .aload_n 0, 1, 0), (1, .getfield 17, 4, 0), (4, .iconst 4, 5, 0), (5, .if_icmp .lt 5, 8, 10), (8, .iconst 0, 9, 0), (9, .ireturn, 10, 0), (10, .aload_n 0, 11, 0), (11, .getfield 11, 14, 0), (14, .aload_n 0, 15, 0), (15, .getfield 17, 18, 0), (18, .aload_n 1, 19, 0), (19, .aastore, 20, 0), (20, .aload_n 0, 21, 0), (21, .dup, 22, 0), (22, .getfield 17, 25, 0), (25, .iconst 1, 26, 0), (26, .iadd, 27, 0), (27, .putfield 17, 30, 0), (30, .iconst 1, 31, 0), (31, .ireturn, 32, 0)]
def M_Of_add : ax_M := (4, (some .boolean), tb_Of_add, [], false)
def m_Of_add : Nat := 44
def tb_Of_gradeAt : List (Nat × Instr × Nat × Nat) := [(0, .iload_n 1, 1, 0), (1, .ifCond .lt 11, 4, 12), (4, .iload_n 1, 5, 0), (5, .aload_n 0, 6, 0), (6, .getfield 17, 9, 0), (9, .if_icmp .lt 7, 12, 16), (12, .aconst_null, 13, 0), (13, .goto 9, 16, 22), (16, .aload_n 0, 17, 0), (17, .getfield 11, 20, 0), (20, .iload_n 1, 21, 0), (21, .aaload, 22, 0), (22, .areturn, 23, 0)]
def M_Of_gradeAt : ax_M := (4, (some (.object "MakingLimits$Grade")), tb_Of_gradeAt, [], false)
def m_Of_gradeAt : Nat := 45
def tb_Of_leastFor : List (Nat × Instr × Nat × Nat) := [(0, .iconst 0, 1, 0), (1, .istore_n 2, 2, 0), (2, .iload_n 2, 3, 0), (3, .aload_n 0, 4, 0), (4, .getfield 17, 7, 0), (7, .if_icmp .ge 29, 10, 36), (10, .aload_n 0, 11, 0), (11, .iload_n 2, 12, 0), (12, .invokevirtual 21, 15, 0), (15, .astore_n 3, 16, 0), (16, .aload_n 3, 17, 0), (17, .ifnull 13, 20, 30), (20, .aload_n 1, 21, 0), (21, .aload_n 3, 22, 0), (22, .invokevirtual 25, 25, 0), (25, .ifCond .eq 5, 28, 30), (28, .iload_n 2, 29, 0), (29, .ireturn, 30, 0), (30, .iinc 2 1, 33, 0), (33, .goto (-31), 36, 2), (36, .iconst (-1), 37, 0), (37, .ireturn, 38, 0)]
def M_Of_leastFor : ax_M := (4, (some .int), tb_Of_leastFor, [], false)
def m_Of_leastFor : Nat := 46
def tb_Or_init : List (Nat × Instr × Nat × Nat) := [(0, .aload_n 0, 1, 0), (1, .invokespecial 3, 4, 0), (4, .aload_n 0, 5, 0), (5, .sipush 140, 8, 0), (8, .newarray .int, 10, 0), (10, .putfield 11, 13, 0), (13, .return_, 14, 0)]
def M_Or_init : ax_M := (5, none, tb_Or_init, [], true)
def m_Or_init : Nat := 47
def tb_Or_add_1 : List (Nat × Instr × Nat × Nat) := [(0, .aload_n 0, 1, 0), (1, .getfield 15, 4, 0), (4, .bipush 20, 6, 0), (6, .if_icmp .lt 5, 9, 11), (9, .iconst (-1), 10, 0), (10, .ireturn, 11, 0), (11, .aload_n 0, 12, 0), (12, .getfield 15, 15, 0), (15, .bipush 7, 17, 0), (17, .imul, 18, 0), (18, .istore 8, 20, 0), (20, .aload_n 0, 21, 0), (21, .getfield 11, 24, 0), (24, .iload 8, 26, 0), (26, .iload_n 1, 27, 0), (27, .iastore, 28, 0), (28, .aload_n 0, 29, 0), (29, .getfield 11, 32, 0), (32, .iload 8, 34, 0), (34, .iconst 1, 35, 0), (35, .iadd, 36, 0), (36, .iload_n 2, 37, 0), (37, .iastore, 38, 0), (38, .aload_n 0, 39, 0), (39, .getfield 11, 42, 0), (42, .iload 8, 44, 0), (44, .iconst 2, 45, 0), (45, .iadd, 46, 0), (46, .iload_n 3, 47, 0), (47, .iastore, 48, 0)]
def tb_Or_add_2 : List (Nat × Instr × Nat × Nat) := [(48, .aload_n 0, 49, 0), (49, .getfield 11, 52, 0), (52, .iload 8, 54, 0), (54, .iconst 3, 55, 0), (55, .iadd, 56, 0), (56, .iload 4, 58, 0), (58, .iastore, 59, 0), (59, .aload_n 0, 60, 0), (60, .getfield 11, 63, 0), (63, .iload 8, 65, 0), (65, .iconst 4, 66, 0), (66, .iadd, 67, 0), (67, .lload 5, 69, 0), (69, .ldc2_w 19, 72, 0), (72, .ldiv, 73, 0), (73, .l2i, 74, 0), (74, .iastore, 75, 0), (75, .aload_n 0, 76, 0), (76, .getfield 11, 79, 0), (79, .iload 8, 81, 0), (81, .iconst 5, 82, 0), (82, .iadd, 83, 0), (83, .lload 5, 85, 0), (85, .ldc2_w 19, 88, 0), (88, .lrem, 89, 0), (89, .l2i, 90, 0), (90, .iastore, 91, 0), (91, .aload_n 0, 92, 0), (92, .getfield 11, 95, 0), (95, .iload 8, 97, 0)]
def tb_Or_add_3 : List (Nat × Instr × Nat × Nat) := [(97, .bipush 6, 99, 0), (99, .iadd, 100, 0), (100, .iload 7, 102, 0), (102, .iastore, 103, 0), (103, .aload_n 0, 104, 0), (104, .dup, 105, 0), (105, .getfield 15, 108, 0), (108, .iconst 1, 109, 0), (109, .iadd, 110, 0), (110, .putfield 15, 113, 0), (113, .aload_n 0, 114, 0), (114, .getfield 15, 117, 0), (117, .iconst 1, 118, 0), (118, .isub, 119, 0), (119, .ireturn, 120, 0)]
def tb_Or_add : List (Nat × Instr × Nat × Nat) := tb_Or_add_1 ++ (tb_Or_add_2 ++ tb_Or_add_3)
def M_Or_add : ax_M := (5, (some .int), tb_Or_add, [], false)
def m_Or_add : Nat := 48
def tb_Or_hasNo : List (Nat × Instr × Nat × Nat) := [(0, .iload_n 1, 1, 0), (1, .ifCond .lt 11, 4, 12), (4, .iload_n 1, 5, 0), (5, .aload_n 0, 6, 0), (6, .getfield 15, 9, 0), (9, .if_icmp .lt 7, 12, 16), (12, .iconst 1, 13, 0), (13, .goto 4, 16, 17), (16, .iconst 0, 17, 0), (17, .ireturn, 18, 0)]
def M_Or_hasNo : ax_M := (5, (some .boolean), tb_Or_hasNo, [], false)
def m_Or_hasNo : Nat := 49
def tb_Or_part : List (Nat × Instr × Nat × Nat) := [(0, .aload_n 0, 1, 0), (1, .iload_n 1, 2, 0), (2, .invokevirtual 21, 5, 0), (5, .ifCond .ne 13, 8, 18), (8, .iload_n 2, 9, 0), (9, .ifCond .lt 9, 12, 18), (12, .iload_n 2, 13, 0), (13, .bipush 7, 15, 0), (15, .if_icmp .lt 7, 18, 22), (18, .iconst (-1), 19, 0), (19, .goto 14, 22, 33), (22, .aload_n 0, 23, 0), (23, .getfield 11, 26, 0), (26, .iload_n 1, 27, 0), (27, .bipush 7, 29, 0), (29, .imul, 30, 0), (30, .iload_n 2, 31, 0), (31, .iadd, 32, 0), (32, .iaload, 33, 0), (33, .ireturn, 34, 0)]
def M_Or_part : ax_M := (5, (some .int), tb_Or_part, [], false)
def m_Or_part : Nat := 50
def tb_Or_forget : List (Nat × Instr × Nat × Nat) := [(0, .aload_n 0, 1, 0), (1, .iconst 0, 2, 0), (2, .putfield 15, 5, 0), (5, .return_, 6, 0)]
def M_Or_forget : ax_M := (5, none, tb_Or_forget, [], false)
def m_Or_forget : Nat := 51
def tb_Qu_init : List (Nat × Instr × Nat × Nat) := [(0, .aload_n 0, 1, 0), (1, .invokespecial 3, 4, 0), (4, .aload_n 0, 5, 0), (5, .bipush 10, 7, 0), (7, .newarray .int, 9, 0), (9, .putfield 11, 12, 0), (12, .aload_n 0, 13, 0), (13, .bipush 10, 15, 0), (15, .anewarray 15, 18, 0), (18, .putfield 17, 21, 0), (21, .aload_n 0, 22, 0), (22, .bipush 10, 24, 0), (24, .newarray .long, 26, 0), (26, .putfield 21, 29, 0), (29, .return_, 30, 0)]
def M_Qu_init : ax_M := (6, none, tb_Qu_init, [], true)
def m_Qu_init : Nat := 52
def tb_Qu_add_1 : List (Nat × Instr × Nat × Nat) := [(0, .aload_n 0, 1, 0), (1, .getfield 25, 4, 0), (4, .bipush 10, 6, 0), (6, .if_icmp .lt 5, 9, 11), (9, .iconst (-1), 10, 0), (10, .ireturn, 11, 0), (11, .aload_n 0, 12, 0), (12, .getfield 11, 15, 0), (15, .aload_n 0, 16, 0), (16, .getfield 25, 19, 0), (19, .iload_n 1, 20, 0), (20, .iastore, 21, 0), (21, .aload_n 0, 22, 0), (22, .getfield 17, 25, 0), (25, .aload_n 0, 26, 0), (26, .getfield 25, 29, 0), (29, .aload_n 2, 30, 0), (30, .aastore, 31, 0), (31, .aload_n 0, 32, 0), (32, .getfield 21, 35, 0), (35, .aload_n 0, 36, 0), (36, .getfield 25, 39, 0), (39, .lload_n 3, 40, 0), (40, .lastore, 41, 0), (41, .aload_n 0, 42, 0), (42, .dup, 43, 0), (43, .getfield 25, 46, 0), (46, .iconst 1, 47, 0), (47, .iadd, 48, 0), (48, .putfield 25, 51, 0)]
def tb_Qu_add_2 : List (Nat × Instr × Nat × Nat) := [(51, .aload_n 0, 52, 0), (52, .getfield 25, 55, 0), (55, .iconst 1, 56, 0), (56, .isub, 57, 0), (57, .ireturn, 58, 0)]
def tb_Qu_add : List (Nat × Instr × Nat × Nat) := tb_Qu_add_1 ++ tb_Qu_add_2
def M_Qu_add : ax_M := (6, (some .int), tb_Qu_add, [], false)
def m_Qu_add : Nat := 53
def tb_Qu_latest : List (Nat × Instr × Nat × Nat) := [(0, .aload_n 0, 1, 0), (1, .getfield 25, 4, 0), (4, .iconst 1, 5, 0), (5, .isub, 6, 0), (6, .istore 4, 8, 0), (8, .iload 4, 10, 0), (10, .ifCond .lt 35, 13, 45), (13, .aload_n 0, 14, 0), (14, .getfield 11, 17, 0), (17, .iload 4, 19, 0), (19, .iaload, 20, 0), (20, .iload_n 1, 21, 0), (21, .if_icmp .ne 18, 24, 39), (24, .aload_n 0, 25, 0), (25, .getfield 21, 28, 0), (28, .iload 4, 30, 0), (30, .laload, 31, 0), (31, .lload_n 2, 32, 0), (32, .lcmp, 33, 0), (33, .ifCond .lt 6, 36, 39), (36, .iload 4, 38, 0), (38, .ireturn, 39, 0), (39, .iinc 4 (-1), 42, 0), (42, .goto (-34), 45, 8), (45, .iconst (-1), 46, 0), (46, .ireturn, 47, 0)]
def M_Qu_latest : ax_M := (6, (some .int), tb_Qu_latest, [], false)
def m_Qu_latest : Nat := 54
def tb_Qu_offerAt : List (Nat × Instr × Nat × Nat) := [(0, .iload_n 1, 1, 0), (1, .ifCond .lt 11, 4, 12), (4, .iload_n 1, 5, 0), (5, .aload_n 0, 6, 0), (6, .getfield 25, 9, 0), (9, .if_icmp .lt 7, 12, 16), (12, .aconst_null, 13, 0), (13, .goto 9, 16, 22), (16, .aload_n 0, 17, 0), (17, .getfield 17, 20, 0), (20, .iload_n 1, 21, 0), (21, .aaload, 22, 0), (22, .areturn, 23, 0)]
def M_Qu_offerAt : ax_M := (6, (some (.object "MakingLimits$Offer")), tb_Qu_offerAt, [], false)
def m_Qu_offerAt : Nat := 55
def tb_Qu_forget : List (Nat × Instr × Nat × Nat) := [(0, .aload_n 0, 1, 0), (1, .iconst 0, 2, 0), (2, .putfield 25, 5, 0), (5, .return_, 6, 0)]
def M_Qu_forget : ax_M := (6, none, tb_Qu_forget, [], false)
def m_Qu_forget : Nat := 56
def tb_Re_init : List (Nat × Instr × Nat × Nat) := [(0, .aload_n 0, 1, 0), (1, .invokespecial 3, 4, 0), (4, .aload_n 0, 5, 0), (5, .bipush 60, 7, 0), (7, .newarray .int, 9, 0), (9, .putfield 11, 12, 0), (12, .aload_n 0, 13, 0), (13, .bipush 60, 15, 0), (15, .newarray .int, 17, 0), (17, .putfield 17, 20, 0), (20, .return_, 21, 0)]
def M_Re_init : ax_M := (7, none, tb_Re_init, [], true)
def m_Re_init : Nat := 57
def tb_Re_collect_1 : List (Nat × Instr × Nat × Nat) := [(0, .aload_n 0, 1, 0), (1, .iconst 0, 2, 0), (2, .putfield 20, 5, 0), (5, .iconst 0, 6, 0), (6, .istore_n 3, 7, 0), (7, .iload_n 3, 8, 0), (8, .bipush 60, 10, 0), (10, .if_icmp .ge 53, 13, 63), (13, .aload_n 1, 14, 0), (14, .iload_n 3, 15, 0), (15, .aload_n 2, 16, 0), (16, .invokevirtual 24, 19, 0), (19, .istore 4, 21, 0), (21, .iload 4, 23, 0), (23, .ifCond .le 34, 26, 57), (26, .aload_n 0, 27, 0), (27, .getfield 11, 30, 0), (30, .aload_n 0, 31, 0), (31, .getfield 20, 34, 0), (34, .iload_n 3, 35, 0), (35, .iastore, 36, 0), (36, .aload_n 0, 37, 0), (37, .getfield 17, 40, 0), (40, .aload_n 0, 41, 0), (41, .getfield 20, 44, 0), (44, .iload 4, 46, 0), (46, .iastore, 47, 0), (47, .aload_n 0, 48, 0), (48, .dup, 49, 0), (49, .getfield 20, 52, 0)]
def tb_Re_collect_2 : List (Nat × Instr × Nat × Nat) := [(52, .iconst 1, 53, 0), (53, .iadd, 54, 0), (54, .putfield 20, 57, 0), (57, .iinc 3 1, 60, 0), (60, .goto (-53), 63, 7), (63, .aload_n 0, 64, 0), (64, .getfield 20, 67, 0), (67, .ireturn, 68, 0)]
def tb_Re_collect : List (Nat × Instr × Nat × Nat) := tb_Re_collect_1 ++ tb_Re_collect_2
def M_Re_collect : ax_M := (7, (some .int), tb_Re_collect, [], false)
def m_Re_collect : Nat := 58
def tb_Re_thingOf : List (Nat × Instr × Nat × Nat) := [(0, .iload_n 1, 1, 0), (1, .ifCond .lt 11, 4, 12), (4, .iload_n 1, 5, 0), (5, .aload_n 0, 6, 0), (6, .getfield 20, 9, 0), (9, .if_icmp .lt 7, 12, 16), (12, .iconst (-1), 13, 0), (13, .goto 9, 16, 22), (16, .aload_n 0, 17, 0), (17, .getfield 11, 20, 0), (20, .iload_n 1, 21, 0), (21, .iaload, 22, 0), (22, .ireturn, 23, 0)]
def M_Re_thingOf : ax_M := (7, (some .int), tb_Re_thingOf, [], false)
def m_Re_thingOf : Nat := 59
def tb_Re_excessOf : List (Nat × Instr × Nat × Nat) := [(0, .iload_n 1, 1, 0), (1, .ifCond .lt 11, 4, 12), (4, .iload_n 1, 5, 0), (5, .aload_n 0, 6, 0), (6, .getfield 20, 9, 0), (9, .if_icmp .lt 7, 12, 16), (12, .iconst (-1), 13, 0), (13, .goto 9, 16, 22), (16, .aload_n 0, 17, 0), (17, .getfield 17, 20, 0), (20, .iload_n 1, 21, 0), (21, .iaload, 22, 0), (22, .ireturn, 23, 0)]
def M_Re_excessOf : ax_M := (7, (some .int), tb_Re_excessOf, [], false)
def m_Re_excessOf : Nat := 60
def tb_Re_forget : List (Nat × Instr × Nat × Nat) := [(0, .aload_n 0, 1, 0), (1, .iconst 0, 2, 0), (2, .putfield 20, 5, 0), (5, .return_, 6, 0)]
def M_Re_forget : ax_M := (7, none, tb_Re_forget, [], false)
def m_Re_forget : Nat := 61
def tb_Tx_init : List (Nat × Instr × Nat × Nat) := [(0, .aload_n 0, 1, 0), (1, .invokespecial 3, 4, 0), (4, .aload_n 0, 5, 0), (5, .sipush 400, 8, 0), (8, .newarray .char, 10, 0), (10, .putfield 11, 13, 0), (13, .return_, 14, 0)]
def M_Tx_init : ax_M := (8, none, tb_Tx_init, [], true)
def m_Tx_init : Nat := 62
def tb_Tx_add : List (Nat × Instr × Nat × Nat) := [(0, .iload_n 1, 1, 0), (1, .bipush 32, 3, 0), (3, .if_icmp .lt 19, 6, 22), (6, .iload_n 1, 7, 0), (7, .bipush 126, 9, 0), (9, .if_icmp .gt 13, 12, 22), (12, .aload_n 0, 13, 0), (13, .getfield 15, 16, 0), (16, .sipush 400, 19, 0), (19, .if_icmp .lt 5, 22, 24), (22, .iconst 0, 23, 0), (23, .ireturn, 24, 0), (24, .aload_n 0, 25, 0), (25, .getfield 11, 28, 0), (28, .aload_n 0, 29, 0), (29, .getfield 15, 32, 0), (32, .iload_n 1, 33, 0), (33, .i2c, 34, 0), (34, .castore, 35, 0), (35, .aload_n 0, 36, 0), (36, .dup, 37, 0), (37, .getfield 15, 40, 0), (40, .iconst 1, 41, 0), (41, .iadd, 42, 0), (42, .putfield 15, 45, 0), (45, .iconst 1, 46, 0), (46, .ireturn, 47, 0)]
def M_Tx_add : ax_M := (8, (some .boolean), tb_Tx_add, [], false)
def m_Tx_add : Nat := 63
def tb_Tx_forget : List (Nat × Instr × Nat × Nat) := [(0, .aload_n 0, 1, 0), (1, .iconst 0, 2, 0), (2, .putfield 15, 5, 0), (5, .aload_n 0, 6, 0), (6, .iconst 0, 7, 0), (7, .putfield 19, 10, 0), (10, .return_, 11, 0)]
def M_Tx_forget : ax_M := (8, none, tb_Tx_forget, [], false)
def m_Tx_forget : Nat := 64
def tb_Tx_place : List (Nat × Instr × Nat × Nat) := [(0, .aload_n 0, 1, 0), (1, .getfield 19, 4, 0), (4, .ireturn, 5, 0)]
def M_Tx_place : ax_M := (8, (some .int), tb_Tx_place, [], false)
def m_Tx_place : Nat := 65
def tb_Tx_readNumber_1 : List (Nat × Instr × Nat × Nat) := [(0, .aload_n 0, 1, 0), (1, .iconst 0, 2, 0), (2, .putfield 19, 5, 0), (5, .aload_n 0, 6, 0), (6, .bipush 77, 8, 0), (8, .invokevirtual 22, 11, 0), (11, .ifCond .eq 13, 14, 24), (14, .aload_n 0, 15, 0), (15, .invokevirtual 26, 18, 0), (18, .invokestatic 30, 21, 0), (21, .ifCond .ne 5, 24, 26), (24, .iconst (-1), 25, 0), (25, .ireturn, 26, 0), (26, .aload_n 0, 27, 0), (27, .invokevirtual 26, 30, 0), (30, .bipush 48, 32, 0), (32, .isub, 33, 0), (33, .istore_n 2, 34, 0), (34, .iload_n 2, 35, 0), (35, .iload_n 1, 36, 0), (36, .if_icmp .gt 8, 39, 44), (39, .iload_n 2, 40, 0), (40, .iconst 4, 41, 0), (41, .if_icmp .lt 10, 44, 51), (44, .aload_n 0, 45, 0), (45, .iconst 0, 46, 0), (46, .putfield 19, 49, 0), (49, .iconst (-1), 50, 0), (50, .ireturn, 51, 0), (51, .aload_n 0, 52, 0)]
def tb_Tx_readNumber_2 : List (Nat × Instr × Nat × Nat) := [(52, .dup, 53, 0), (53, .getfield 19, 56, 0), (56, .iconst 1, 57, 0), (57, .iadd, 58, 0), (58, .putfield 19, 61, 0), (61, .iload_n 2, 62, 0), (62, .ireturn, 63, 0)]
def tb_Tx_readNumber : List (Nat × Instr × Nat × Nat) := tb_Tx_readNumber_1 ++ tb_Tx_readNumber_2
def M_Tx_readNumber : ax_M := (8, (some .int), tb_Tx_readNumber, [], false)
def m_Tx_readNumber : Nat := 66
def tb_Tx_readOffer_1 : List (Nat × Instr × Nat × Nat) := [(0, .new 34, 3, 0), (3, .dup, 4, 0), (4, .invokespecial 36, 7, 0), (7, .astore_n 1, 8, 0), (8, .iconst 0, 9, 0), (9, .istore_n 2, 10, 0), (10, .iload_n 2, 11, 0), (11, .iconst 4, 12, 0), (12, .if_icmp .gt 64, 15, 76), (15, .aload_n 0, 16, 0), (16, .getfield 19, 19, 0), (19, .istore_n 3, 20, 0), (20, .aload_n 0, 21, 0), (21, .invokevirtual 37, 24, 0), (24, .astore 4, 26, 0), (26, .aload 4, 28, 0), (28, .ifnonnull 5, 31, 33), (31, .aconst_null, 32, 0), (32, .areturn, 33, 0), (33, .aload 4, 35, 0), (35, .getfield 41, 38, 0), (38, .ifCond .eq 12, 41, 50), (41, .aload_n 1, 42, 0), (42, .aload 4, 44, 0), (44, .invokevirtual 47, 47, 0), (47, .ifCond .ne 10, 50, 57), (50, .aload_n 0, 51, 0), (51, .iload_n 3, 52, 0), (52, .putfield 19, 55, 0), (55, .aconst_null, 56, 0)]
def tb_Tx_readOffer_2 : List (Nat × Instr × Nat × Nat) := [(56, .areturn, 57, 0), (57, .aload_n 0, 58, 0), (58, .getfield 19, 61, 0), (61, .aload_n 0, 62, 0), (62, .getfield 15, 65, 0), (65, .if_icmp .lt 5, 68, 70), (68, .aload_n 1, 69, 0), (69, .areturn, 70, 0), (70, .iinc 2 1, 73, 0), (73, .goto (-63), 76, 10), (76, .aconst_null, 77, 0), (77, .areturn, 78, 0)]
def tb_Tx_readOffer : List (Nat × Instr × Nat × Nat) := tb_Tx_readOffer_1 ++ tb_Tx_readOffer_2
def M_Tx_readOffer : ax_M := (8, (some (.object "MakingLimits$Offer")), tb_Tx_readOffer, [], false)
def m_Tx_readOffer : Nat := 67
def tb_Tx_readGrade_1 : List (Nat × Instr × Nat × Nat) := [(0, .aload_n 0, 1, 0), (1, .bipush 67, 3, 0), (3, .invokevirtual 22, 6, 0), (6, .ifCond .ne 5, 9, 11), (9, .aconst_null, 10, 0), (10, .areturn, 11, 0), (11, .new 42, 14, 0), (14, .dup, 15, 0), (15, .invokespecial 51, 18, 0), (18, .astore_n 1, 19, 0), (19, .aload_n 0, 20, 0), (20, .aload_n 1, 21, 0), (21, .invokevirtual 52, 24, 0), (24, .ifCond .eq 50, 27, 74), (27, .aload_n 0, 28, 0), (28, .bipush 58, 30, 0), (30, .invokevirtual 22, 33, 0), (33, .ifCond .eq 41, 36, 74), (36, .aload_n 0, 37, 0), (37, .aload_n 1, 38, 0), (38, .invokevirtual 55, 41, 0), (41, .ifCond .eq 33, 44, 74), (44, .aload_n 0, 45, 0), (45, .bipush 47, 47, 0), (47, .invokevirtual 22, 50, 0), (50, .ifCond .eq 24, 53, 74), (53, .aload_n 0, 54, 0), (54, .aload_n 1, 55, 0), (55, .invokevirtual 58, 58, 0), (58, .ifCond .eq 16, 61, 74)]
def tb_Tx_readGrade_2 : List (Nat × Instr × Nat × Nat) := [(61, .aload_n 0, 62, 0), (62, .bipush 59, 64, 0), (64, .invokevirtual 22, 67, 0), (67, .ifCond .eq 7, 70, 74), (70, .iconst 1, 71, 0), (71, .goto 4, 74, 75), (74, .iconst 0, 75, 0), (75, .istore_n 2, 76, 0), (76, .iload_n 2, 77, 0), (77, .ifCond .eq 7, 80, 84), (80, .aload_n 1, 81, 0), (81, .goto 4, 84, 85), (84, .aconst_null, 85, 0), (85, .areturn, 86, 0)]
def tb_Tx_readGrade : List (Nat × Instr × Nat × Nat) := tb_Tx_readGrade_1 ++ tb_Tx_readGrade_2
def M_Tx_readGrade : ax_M := (8, (some (.object "MakingLimits$Grade")), tb_Tx_readGrade, [], false)
def m_Tx_readGrade : Nat := 68
def tb_Tx_readLimits : List (Nat × Instr × Nat × Nat) := [(0, .iconst 0, 1, 0), (1, .istore_n 2, 2, 0), (2, .iload_n 2, 3, 0), (3, .bipush 6, 5, 0), (5, .if_icmp .ge 42, 8, 47), (8, .iload_n 2, 9, 0), (9, .ifCond .le 14, 12, 23), (12, .aload_n 0, 13, 0), (13, .bipush 44, 15, 0), (15, .invokevirtual 22, 18, 0), (18, .ifCond .ne 5, 21, 23), (21, .iconst 0, 22, 0), (22, .ireturn, 23, 0), (23, .aload_n 0, 24, 0), (24, .invokevirtual 61, 27, 0), (27, .istore_n 3, 28, 0), (28, .iload_n 3, 29, 0), (29, .iconst (-1), 30, 0), (30, .if_icmp .ne 5, 33, 35), (33, .iconst 0, 34, 0), (34, .ireturn, 35, 0), (35, .aload_n 1, 36, 0), (36, .iload_n 2, 37, 0), (37, .iload_n 3, 38, 0), (38, .invokevirtual 64, 41, 0), (41, .iinc 2 1, 44, 0), (44, .goto (-42), 47, 2), (47, .iconst 1, 48, 0), (48, .ireturn, 49, 0)]
def M_Tx_readLimits : ax_M := (8, (some .boolean), tb_Tx_readLimits, [], false)
def m_Tx_readLimits : Nat := 69
def tb_Tx_readSteps_1 : List (Nat × Instr × Nat × Nat) := [(0, .iconst 0, 1, 0), (1, .istore_n 2, 2, 0), (2, .iload_n 2, 3, 0), (3, .sipush 400, 6, 0), (6, .if_icmp .ge 62, 9, 68), (9, .aload_n 0, 10, 0), (10, .invokevirtual 61, 13, 0), (13, .istore_n 3, 14, 0), (14, .iload_n 3, 15, 0), (15, .iconst (-1), 16, 0), (16, .if_icmp .eq 12, 19, 28), (19, .aload_n 0, 20, 0), (20, .bipush 64, 22, 0), (22, .invokevirtual 22, 25, 0), (25, .ifCond .ne 5, 28, 30), (28, .iconst 0, 29, 0), (29, .ireturn, 30, 0), (30, .aload_n 0, 31, 0), (31, .invokevirtual 61, 34, 0), (34, .istore 4, 36, 0), (36, .iload 4, 38, 0), (38, .iconst (-1), 39, 0), (39, .if_icmp .ne 5, 42, 44), (42, .iconst 0, 43, 0), (43, .ireturn, 44, 0), (44, .aload_n 1, 45, 0), (45, .iload_n 3, 46, 0), (46, .iload 4, 48, 0), (48, .invokevirtual 68, 51, 0), (51, .aload_n 0, 52, 0)]
def tb_Tx_readSteps_2 : List (Nat × Instr × Nat × Nat) := [(52, .bipush 44, 54, 0), (54, .invokevirtual 22, 57, 0), (57, .ifCond .ne 5, 60, 62), (60, .iconst 1, 61, 0), (61, .ireturn, 62, 0), (62, .iinc 2 1, 65, 0), (65, .goto (-63), 68, 2), (68, .iconst 0, 69, 0), (69, .ireturn, 70, 0)]
def tb_Tx_readSteps : List (Nat × Instr × Nat × Nat) := tb_Tx_readSteps_1 ++ tb_Tx_readSteps_2
def M_Tx_readSteps : ax_M := (8, (some .boolean), tb_Tx_readSteps, [], false)
def m_Tx_readSteps : Nat := 70
def tb_Tx_readDays : List (Nat × Instr × Nat × Nat) := [(0, .aload_n 0, 1, 0), (1, .invokevirtual 61, 4, 0), (4, .istore_n 2, 5, 0), (5, .iload_n 2, 6, 0), (6, .iconst (-1), 7, 0), (7, .if_icmp .ne 5, 10, 12), (10, .iconst 0, 11, 0), (11, .ireturn, 12, 0), (12, .aload_n 1, 13, 0), (13, .iload_n 2, 14, 0), (14, .invokevirtual 71, 17, 0), (17, .iconst 1, 18, 0), (18, .ireturn, 19, 0)]
def M_Tx_readDays : ax_M := (8, (some .boolean), tb_Tx_readDays, [], false)
def m_Tx_readDays : Nat := 71
def tb_Tx_readWhole_1 : List (Nat × Instr × Nat × Nat) := [(0, .aload_n 0, 1, 0), (1, .invokevirtual 26, 4, 0), (4, .invokestatic 30, 7, 0), (7, .ifCond .ne 5, 10, 12), (10, .iconst (-1), 11, 0), (11, .ireturn, 12, 0), (12, .iconst 0, 13, 0), (13, .istore_n 1, 14, 0), (14, .iconst 0, 15, 0), (15, .istore_n 2, 16, 0), (16, .iload_n 2, 17, 0), (17, .bipush 7, 19, 0), (19, .if_icmp .ge 42, 22, 61), (22, .aload_n 0, 23, 0), (23, .invokevirtual 26, 26, 0), (26, .invokestatic 30, 29, 0), (29, .ifCond .eq 32, 32, 61), (32, .iload_n 1, 33, 0), (33, .bipush 10, 35, 0), (35, .imul, 36, 0), (36, .aload_n 0, 37, 0), (37, .invokevirtual 26, 40, 0), (40, .bipush 48, 42, 0), (42, .isub, 43, 0), (43, .iadd, 44, 0), (44, .istore_n 1, 45, 0), (45, .aload_n 0, 46, 0), (46, .dup, 47, 0), (47, .getfield 19, 50, 0), (50, .iconst 1, 51, 0)]
def tb_Tx_readWhole_2 : List (Nat × Instr × Nat × Nat) := [(51, .iadd, 52, 0), (52, .putfield 19, 55, 0), (55, .iinc 2 1, 58, 0), (58, .goto (-42), 61, 16), (61, .iload_n 1, 62, 0), (62, .ireturn, 63, 0)]
def tb_Tx_readWhole : List (Nat × Instr × Nat × Nat) := tb_Tx_readWhole_1 ++ tb_Tx_readWhole_2
def M_Tx_readWhole : ax_M := (8, (some .int), tb_Tx_readWhole, [], false)
def m_Tx_readWhole : Nat := 72
def tb_Tx_passes : List (Nat × Instr × Nat × Nat) := [(0, .aload_n 0, 1, 0), (1, .invokevirtual 26, 4, 0), (4, .iload_n 1, 5, 0), (5, .if_icmp .eq 5, 8, 10), (8, .iconst 0, 9, 0), (9, .ireturn, 10, 0), (10, .aload_n 0, 11, 0), (11, .dup, 12, 0), (12, .getfield 19, 15, 0), (15, .iconst 1, 16, 0), (16, .iadd, 17, 0), (17, .putfield 19, 20, 0), (20, .iconst 1, 21, 0), (21, .ireturn, 22, 0)]
def M_Tx_passes : ax_M := (8, (some .boolean), tb_Tx_passes, [], false)
def m_Tx_passes : Nat := 73
def tb_Tx_next : List (Nat × Instr × Nat × Nat) := [(0, .aload_n 0, 1, 0), (1, .getfield 19, 4, 0), (4, .ifCond .lt 14, 7, 18), (7, .aload_n 0, 8, 0), (8, .getfield 19, 11, 0), (11, .aload_n 0, 12, 0), (12, .getfield 15, 15, 0), (15, .if_icmp .lt 7, 18, 22), (18, .iconst (-1), 19, 0), (19, .goto 12, 22, 31), (22, .aload_n 0, 23, 0), (23, .getfield 11, 26, 0), (26, .aload_n 0, 27, 0), (27, .getfield 19, 30, 0), (30, .caload, 31, 0), (31, .ireturn, 32, 0)]
def M_Tx_next : ax_M := (8, (some .int), tb_Tx_next, [], false)
def m_Tx_next : Nat := 74
def tb_Tx_isDigit : List (Nat × Instr × Nat × Nat) := [(0, .iload_n 0, 1, 0), (1, .bipush 48, 3, 0), (3, .if_icmp .lt 13, 6, 16), (6, .iload_n 0, 7, 0), (7, .bipush 57, 9, 0), (9, .if_icmp .gt 7, 12, 16), (12, .iconst 1, 13, 0), (13, .goto 4, 16, 17), (16, .iconst 0, 17, 0), (17, .ireturn, 18, 0)]
def M_Tx_isDigit : ax_M := (8, (some .boolean), tb_Tx_isDigit, [], false)
def m_Tx_isDigit : Nat := 75
def tb_Mo_init_1 : List (Nat × Instr × Nat × Nat) := [(0, .aload_n 0, 1, 0), (1, .invokespecial 1, 4, 0), (4, .aload_n 0, 5, 0), (5, .sipush 400, 8, 0), (8, .newarray .int, 10, 0), (10, .putfield 7, 13, 0), (13, .aload_n 0, 14, 0), (14, .bipush 15, 16, 0), (16, .newarray .int, 18, 0), (18, .putfield 13, 21, 0), (21, .aload_n 0, 22, 0), (22, .sipush 960, 25, 0), (25, .newarray .long, 27, 0), (27, .putfield 16, 30, 0), (30, .aload_n 0, 31, 0), (31, .bipush 60, 33, 0), (33, .newarray .int, 35, 0), (35, .putfield 20, 38, 0), (38, .aload_n 0, 39, 0), (39, .bipush 60, 41, 0), (41, .newarray .long, 43, 0), (43, .putfield 23, 46, 0), (46, .aload_n 0, 47, 0), (47, .bipush 60, 49, 0), (49, .newarray .int, 51, 0), (51, .putfield 26, 54, 0), (54, .aload_n 0, 55, 0), (55, .bipush 60, 57, 0), (57, .newarray .long, 59, 0), (59, .putfield 29, 62, 0)]
def tb_Mo_init_2 : List (Nat × Instr × Nat × Nat) := [(62, .aload_n 0, 63, 0), (63, .bipush 60, 65, 0), (65, .newarray .long, 67, 0), (67, .putfield 32, 70, 0), (70, .aload_n 0, 71, 0), (71, .bipush 60, 73, 0), (73, .newarray .int, 75, 0), (75, .putfield 35, 78, 0), (78, .aload_n 0, 79, 0), (79, .bipush 60, 81, 0), (81, .newarray .long, 83, 0), (83, .putfield 38, 86, 0), (86, .aload_n 0, 87, 0), (87, .bipush 10, 89, 0), (89, .newarray .int, 91, 0), (91, .putfield 41, 94, 0), (94, .aload_n 0, 95, 0), (95, .bipush 10, 97, 0), (97, .newarray .long, 99, 0), (99, .putfield 44, 102, 0), (102, .aload_n 0, 103, 0), (103, .sipush 140, 106, 0), (106, .newarray .long, 108, 0), (108, .putfield 47, 111, 0), (111, .aload_n 0, 112, 0), (112, .sipush 128, 115, 0), (115, .newarray .long, 117, 0), (117, .putfield 50, 120, 0), (120, .aload_n 0, 121, 0), (121, .sipush 128, 124, 0)]
def tb_Mo_init_3 : List (Nat × Instr × Nat × Nat) := [(124, .newarray .long, 126, 0), (126, .putfield 53, 129, 0), (129, .aload_n 0, 130, 0), (130, .invokevirtual 56, 133, 0), (133, .return_, 134, 0)]
def tb_Mo_init : List (Nat × Instr × Nat × Nat) := tb_Mo_init_1 ++ (tb_Mo_init_2 ++ tb_Mo_init_3)
def M_Mo_init : ax_M := (9, none, tb_Mo_init, [], true)
def m_Mo_init : Nat := 76
def tb_Mo_empty_1 : List (Nat × Instr × Nat × Nat) := [(0, .aload_n 0, 1, 0), (1, .iconst 0, 2, 0), (2, .putfield 59, 5, 0), (5, .aload_n 0, 6, 0), (6, .iconst 0, 7, 0), (7, .putfield 63, 10, 0), (10, .aload_n 0, 11, 0), (11, .iconst 0, 12, 0), (12, .putfield 66, 15, 0), (15, .aload_n 0, 16, 0), (16, .iconst 0, 17, 0), (17, .putfield 69, 20, 0), (20, .aload_n 0, 21, 0), (21, .iconst 0, 22, 0), (22, .putfield 72, 25, 0), (25, .aload_n 0, 26, 0), (26, .iconst 0, 27, 0), (27, .putfield 75, 30, 0), (30, .iconst 0, 31, 0), (31, .istore_n 1, 32, 0), (32, .iload_n 1, 33, 0), (33, .sipush 128, 36, 0), (36, .if_icmp .ge 23, 39, 59), (39, .aload_n 0, 40, 0), (40, .getfield 50, 43, 0), (43, .iload_n 1, 44, 0), (44, .lconst 0, 45, 0), (45, .lastore, 46, 0), (46, .aload_n 0, 47, 0), (47, .getfield 53, 50, 0)]
def tb_Mo_empty_2 : List (Nat × Instr × Nat × Nat) := [(50, .iload_n 1, 51, 0), (51, .lconst 1, 52, 0), (52, .lastore, 53, 0), (53, .iinc 1 1, 56, 0), (56, .goto (-24), 59, 32), (59, .return_, 60, 0)]
def tb_Mo_empty : List (Nat × Instr × Nat × Nat) := tb_Mo_empty_1 ++ tb_Mo_empty_2
def M_Mo_empty : ax_M := (9, none, tb_Mo_empty, [], false)
def m_Mo_empty : Nat := 77
def tb_Mo_thrown : List (Nat × Instr × Nat × Nat) := [(0, .aload_n 0, 1, 0), (1, .getfield 78, 4, 0), (4, .ireturn, 5, 0)]
def M_Mo_thrown : ax_M := (9, (some .int), tb_Mo_thrown, [], false)
def m_Mo_thrown : Nat := 78
def tb_Mo_clear : List (Nat × Instr × Nat × Nat) := [(0, .aload_n 0, 1, 0), (1, .iconst 0, 2, 0), (2, .putfield 78, 5, 0), (5, .aload_n 0, 6, 0), (6, .invokevirtual 56, 9, 0), (9, .return_, 10, 0)]
def M_Mo_clear : ax_M := (9, none, tb_Mo_clear, [], false)
def m_Mo_clear : Nat := 79
def tb_Mo_unit : List (Nat × Instr × Nat × Nat) := [(0, .aload_n 0, 1, 0), (1, .iconst 0, 2, 0), (2, .putfield 78, 5, 0), (5, .iload_n 1, 6, 0), (6, .bipush 32, 8, 0), (8, .if_icmp .lt 19, 11, 27), (11, .iload_n 1, 12, 0), (12, .bipush 126, 14, 0), (14, .if_icmp .gt 13, 17, 27), (17, .aload_n 0, 18, 0), (18, .getfield 59, 21, 0), (21, .sipush 400, 24, 0), (24, .if_icmp .ne 5, 27, 29), (27, .iconst 0, 28, 0), (28, .ireturn, 29, 0), (29, .aload_n 0, 30, 0), (30, .getfield 7, 33, 0), (33, .aload_n 0, 34, 0), (34, .getfield 59, 37, 0), (37, .iload_n 1, 38, 0), (38, .iastore, 39, 0), (39, .aload_n 0, 40, 0), (40, .dup, 41, 0), (41, .getfield 59, 44, 0), (44, .iconst 1, 45, 0), (45, .iadd, 46, 0), (46, .putfield 59, 49, 0), (49, .iconst 1, 50, 0), (50, .ireturn, 51, 0)]
def M_Mo_unit : ax_M := (9, (some .boolean), tb_Mo_unit, [], false)
def m_Mo_unit : Nat := 80
def tb_Mo_now : List (Nat × Instr × Nat × Nat) := [(0, .aload_n 0, 1, 0), (1, .getfield 81, 4, 0), (4, .aload_n 0, 5, 0), (5, .getfield 59, 8, 0), (8, .if_icmp .ge 15, 11, 23), (11, .aload_n 0, 12, 0), (12, .getfield 7, 15, 0), (15, .aload_n 0, 16, 0), (16, .getfield 81, 19, 0), (19, .iaload, 20, 0), (20, .goto 4, 23, 24), (23, .iconst (-1), 24, 0), (24, .ireturn, 25, 0)]
def M_Mo_now : ax_M := (9, (some .int), tb_Mo_now, [], false)
def m_Mo_now : Nat := 81
def tb_Mo_expect : List (Nat × Instr × Nat × Nat) := [(0, .aload_n 0, 1, 0), (1, .getfield 84, 4, 0), (4, .iconst (-1), 5, 0), (5, .if_icmp .eq 4, 8, 9), (8, .return_, 9, 0), (9, .aload_n 0, 10, 0), (10, .invokevirtual 87, 13, 0), (13, .iload_n 1, 14, 0), (14, .if_icmp .ne 16, 17, 30), (17, .aload_n 0, 18, 0), (18, .dup, 19, 0), (19, .getfield 81, 22, 0), (22, .iconst 1, 23, 0), (23, .iadd, 24, 0), (24, .putfield 81, 27, 0), (27, .goto 11, 30, 38), (30, .aload_n 0, 31, 0), (31, .aload_n 0, 32, 0), (32, .getfield 81, 35, 0), (35, .putfield 84, 38, 0), (38, .return_, 39, 0)]
def M_Mo_expect : ax_M := (9, none, tb_Mo_expect, [], false)
def m_Mo_expect : Nat := 82
def tb_Mo_isDigit : List (Nat × Instr × Nat × Nat) := [(0, .aload_n 0, 1, 0), (1, .invokevirtual 87, 4, 0), (4, .bipush 48, 6, 0), (6, .if_icmp .lt 16, 9, 22), (9, .aload_n 0, 10, 0), (10, .invokevirtual 87, 13, 0), (13, .bipush 57, 15, 0), (15, .if_icmp .gt 7, 18, 22), (18, .iconst 1, 19, 0), (19, .goto 4, 22, 23), (22, .iconst 0, 23, 0), (23, .ireturn, 24, 0)]
def M_Mo_isDigit : ax_M := (9, (some .boolean), tb_Mo_isDigit, [], false)
def m_Mo_isDigit : Nat := 83
def tb_Mo_whole_1 : List (Nat × Instr × Nat × Nat) := [(0, .lconst 0, 1, 0), (1, .lstore_n 1, 2, 0), (2, .iconst 0, 3, 0), (3, .istore_n 3, 4, 0), (4, .aload_n 0, 5, 0), (5, .getfield 84, 8, 0), (8, .iconst (-1), 9, 0), (9, .if_icmp .ne 48, 12, 57), (12, .iload_n 3, 13, 0), (13, .bipush 7, 15, 0), (15, .if_icmp .ge 42, 18, 57), (18, .aload_n 0, 19, 0), (19, .invokevirtual 91, 22, 0), (22, .ifCond .eq 35, 25, 57), (25, .ldc2_w 95, 28, 0), (28, .lload_n 1, 29, 0), (29, .lmul, 30, 0), (30, .aload_n 0, 31, 0), (31, .invokevirtual 87, 34, 0), (34, .i2l, 35, 0), (35, .ladd, 36, 0), (36, .ldc2_w 97, 39, 0), (39, .lsub, 40, 0), (40, .lstore_n 1, 41, 0), (41, .iinc 3 1, 44, 0), (44, .aload_n 0, 45, 0), (45, .dup, 46, 0), (46, .getfield 81, 49, 0), (49, .iconst 1, 50, 0), (50, .iadd, 51, 0)]
def tb_Mo_whole_2 : List (Nat × Instr × Nat × Nat) := [(51, .putfield 81, 54, 0), (54, .goto (-50), 57, 4), (57, .aload_n 0, 58, 0), (58, .getfield 84, 61, 0), (61, .iconst (-1), 62, 0), (62, .if_icmp .ne 22, 65, 84), (65, .iload_n 3, 66, 0), (66, .ifCond .eq 10, 69, 76), (69, .aload_n 0, 70, 0), (70, .invokevirtual 91, 73, 0), (73, .ifCond .eq 11, 76, 84), (76, .aload_n 0, 77, 0), (77, .aload_n 0, 78, 0), (78, .getfield 81, 81, 0), (81, .putfield 84, 84, 0), (84, .lload_n 1, 85, 0), (85, .lreturn, 86, 0)]
def tb_Mo_whole : List (Nat × Instr × Nat × Nat) := tb_Mo_whole_1 ++ tb_Mo_whole_2
def M_Mo_whole : ax_M := (9, (some .long), tb_Mo_whole, [], false)
def m_Mo_whole : Nat := 84
def tb_Mo_place : List (Nat × Instr × Nat × Nat) := [(0, .bipush 16, 2, 0), (2, .iconst 4, 3, 0), (3, .iload_n 0, 4, 0), (4, .imul, 5, 0), (5, .iload_n 1, 6, 0), (6, .iadd, 7, 0), (7, .imul, 8, 0), (8, .ireturn, 9, 0)]
def M_Mo_place : ax_M := (9, (some .int), tb_Mo_place, [], false)
def m_Mo_place : Nat := 85
def tb_Mo_readClass_1 : List (Nat × Instr × Nat × Nat) := [(0, .aload_n 0, 1, 0), (1, .getfield 81, 4, 0), (4, .istore_n 2, 5, 0), (5, .iload_n 1, 6, 0), (6, .iconst 4, 7, 0), (7, .if_icmp .ge 12, 10, 19), (10, .bipush 14, 12, 0), (12, .iload_n 1, 13, 0), (13, .invokestatic 99, 16, 0), (16, .goto 9, 19, 25), (19, .bipush 14, 21, 0), (21, .iconst 3, 22, 0), (22, .invokestatic 99, 25, 0), (25, .istore_n 3, 26, 0), (26, .iload_n 1, 27, 0), (27, .iconst 4, 28, 0), (28, .if_icmp .ge 7, 31, 35), (31, .iconst 1, 32, 0), (32, .goto 4, 35, 36), (35, .iconst 0, 36, 0), (36, .istore 4, 38, 0), (38, .aload_n 0, 39, 0), (39, .bipush 67, 41, 0), (41, .invokevirtual 103, 44, 0), (44, .iconst 0, 45, 0), (45, .istore 5, 47, 0), (47, .iload 5, 49, 0), (49, .bipush 6, 51, 0), (51, .if_icmp .ge 63, 54, 114), (54, .iload 5, 56, 0)]
def tb_Mo_readClass_2 : List (Nat × Instr × Nat × Nat) := [(56, .ifCond .le 9, 59, 65), (59, .aload_n 0, 60, 0), (60, .bipush 44, 62, 0), (62, .invokevirtual 103, 65, 0), (65, .aload_n 0, 66, 0), (66, .invokevirtual 107, 69, 0), (69, .lstore 6, 71, 0), (71, .iload 4, 73, 0), (73, .ifCond .eq 16, 76, 89), (76, .lload 6, 78, 0), (78, .ldc2_w 111, 81, 0), (81, .lcmp, 82, 0), (82, .ifCond .gt 7, 85, 89), (85, .iconst 1, 86, 0), (86, .goto 4, 89, 90), (89, .iconst 0, 90, 0), (90, .istore 4, 92, 0), (92, .iload_n 1, 93, 0), (93, .iconst 4, 94, 0), (94, .if_icmp .ge 14, 97, 108), (97, .aload_n 0, 98, 0), (98, .getfield 16, 101, 0), (101, .iload_n 3, 102, 0), (102, .iload 5, 104, 0), (104, .iadd, 105, 0), (105, .lload 6, 107, 0), (107, .lastore, 108, 0), (108, .iinc 5 1, 111, 0), (111, .goto (-64), 114, 47), (114, .aload_n 0, 115, 0)]
def tb_Mo_readClass_3 : List (Nat × Instr × Nat × Nat) := [(115, .bipush 58, 117, 0), (117, .invokevirtual 103, 120, 0), (120, .iconst 0, 121, 0), (121, .istore 5, 123, 0), (123, .lconst 0, 124, 0), (124, .lstore 6, 126, 0), (126, .iconst 1, 127, 0), (127, .istore 8, 129, 0), (129, .aload_n 0, 130, 0), (130, .getfield 84, 133, 0), (133, .iconst (-1), 134, 0), (134, .if_icmp .ne 151, 137, 285), (137, .iload 8, 139, 0), (139, .ifCond .eq 146, 142, 285), (142, .iload 5, 144, 0), (144, .ifCond .le 9, 147, 153), (147, .aload_n 0, 148, 0), (148, .bipush 44, 150, 0), (150, .invokevirtual 103, 153, 0), (153, .aload_n 0, 154, 0), (154, .invokevirtual 107, 157, 0), (157, .lstore 9, 159, 0), (159, .aload_n 0, 160, 0), (160, .bipush 64, 162, 0), (162, .invokevirtual 103, 165, 0), (165, .aload_n 0, 166, 0), (166, .invokevirtual 107, 169, 0), (169, .lstore 11, 171, 0), (171, .iload 4, 173, 0), (173, .ifCond .eq 46, 176, 219)]
def tb_Mo_readClass_4 : List (Nat × Instr × Nat × Nat) := [(176, .iload 5, 178, 0), (178, .iconst 4, 179, 0), (179, .if_icmp .ge 40, 182, 219), (182, .lload 9, 184, 0), (184, .lload 6, 186, 0), (186, .lcmp, 187, 0), (187, .ifCond .le 32, 190, 219), (190, .lload 9, 192, 0), (192, .ldc2_w 111, 195, 0), (195, .lcmp, 196, 0), (196, .ifCond .gt 23, 199, 219), (199, .lload 11, 201, 0), (201, .lconst 1, 202, 0), (202, .lcmp, 203, 0), (203, .ifCond .lt 16, 206, 219), (206, .lload 11, 208, 0), (208, .ldc2_w 111, 211, 0), (211, .lcmp, 212, 0), (212, .ifCond .gt 7, 215, 219), (215, .iconst 1, 216, 0), (216, .goto 4, 219, 220), (219, .iconst 0, 220, 0), (220, .istore 4, 222, 0), (222, .iload 4, 224, 0), (224, .ifCond .eq 35, 227, 259), (227, .aload_n 0, 228, 0), (228, .getfield 16, 231, 0), (231, .iload_n 3, 232, 0), (232, .bipush 8, 234, 0), (234, .iadd, 235, 0)]
def tb_Mo_readClass_5 : List (Nat × Instr × Nat × Nat) := [(235, .iconst 2, 236, 0), (236, .iload 5, 238, 0), (238, .imul, 239, 0), (239, .iadd, 240, 0), (240, .lload 9, 242, 0), (242, .lastore, 243, 0), (243, .aload_n 0, 244, 0), (244, .getfield 16, 247, 0), (247, .iload_n 3, 248, 0), (248, .bipush 9, 250, 0), (250, .iadd, 251, 0), (251, .iconst 2, 252, 0), (252, .iload 5, 254, 0), (254, .imul, 255, 0), (255, .iadd, 256, 0), (256, .lload 11, 258, 0), (258, .lastore, 259, 0), (259, .lload 9, 261, 0), (261, .lstore 6, 263, 0), (263, .iinc 5 1, 266, 0), (266, .aload_n 0, 267, 0), (267, .invokevirtual 87, 270, 0), (270, .bipush 44, 272, 0), (272, .if_icmp .ne 7, 275, 279), (275, .iconst 1, 276, 0), (276, .goto 4, 279, 280), (279, .iconst 0, 280, 0), (280, .istore 8, 282, 0), (282, .goto (-153), 285, 129), (285, .aload_n 0, 286, 0)]
def tb_Mo_readClass_6 : List (Nat × Instr × Nat × Nat) := [(286, .bipush 47, 288, 0), (288, .invokevirtual 103, 291, 0), (291, .aload_n 0, 292, 0), (292, .invokevirtual 107, 295, 0), (295, .lstore 9, 297, 0), (297, .aload_n 0, 298, 0), (298, .bipush 59, 300, 0), (300, .invokevirtual 103, 303, 0), (303, .iload 4, 305, 0), (305, .ifCond .eq 16, 308, 321), (308, .lload 9, 310, 0), (310, .ldc2_w 113, 313, 0), (313, .lcmp, 314, 0), (314, .ifCond .gt 7, 317, 321), (317, .iconst 1, 318, 0), (318, .goto 4, 321, 322), (321, .iconst 0, 322, 0), (322, .istore 4, 324, 0), (324, .aload_n 0, 325, 0), (325, .getfield 84, 328, 0), (328, .iconst (-1), 329, 0), (329, .if_icmp .eq 4, 332, 333), (332, .return_, 333, 0), (333, .iload 4, 335, 0), (335, .ifCond .ne 9, 338, 344), (338, .aload_n 0, 339, 0), (339, .iload_n 2, 340, 0), (340, .putfield 84, 343, 0), (343, .return_, 344, 0), (344, .aload_n 0, 345, 0)]
def tb_Mo_readClass_7 : List (Nat × Instr × Nat × Nat) := [(345, .getfield 16, 348, 0), (348, .iload_n 3, 349, 0), (349, .bipush 6, 351, 0), (351, .iadd, 352, 0), (352, .iload 5, 354, 0), (354, .i2l, 355, 0), (355, .lastore, 356, 0), (356, .aload_n 0, 357, 0), (357, .getfield 16, 360, 0), (360, .iload_n 3, 361, 0), (361, .bipush 7, 363, 0), (363, .iadd, 364, 0), (364, .lload 9, 366, 0), (366, .lastore, 367, 0), (367, .aload_n 0, 368, 0), (368, .getfield 13, 371, 0), (371, .bipush 14, 373, 0), (373, .iload_n 1, 374, 0), (374, .iconst 1, 375, 0), (375, .iadd, 376, 0), (376, .iastore, 377, 0), (377, .return_, 378, 0)]
def tb_Mo_readClass : List (Nat × Instr × Nat × Nat) := tb_Mo_readClass_1 ++ (tb_Mo_readClass_2 ++ (tb_Mo_readClass_3 ++ (tb_Mo_readClass_4 ++ (tb_Mo_readClass_5 ++ (tb_Mo_readClass_6 ++ tb_Mo_readClass_7)))))
def M_Mo_readClass : ax_M := (9, none, tb_Mo_readClass, [], false)
def m_Mo_readClass : Nat := 86
def tb_Mo_copyClasses_1 : List (Nat × Instr × Nat × Nat) := [(0, .aload_n 0, 1, 0), (1, .getfield 13, 4, 0), (4, .iload_n 2, 5, 0), (5, .aload_n 0, 6, 0), (6, .getfield 13, 9, 0), (9, .iload_n 1, 10, 0), (10, .iaload, 11, 0), (11, .iastore, 12, 0), (12, .iconst 0, 13, 0), (13, .istore_n 3, 14, 0), (14, .iload_n 3, 15, 0), (15, .bipush 64, 17, 0), (17, .if_icmp .ge 33, 20, 50), (20, .aload_n 0, 21, 0), (21, .getfield 16, 24, 0), (24, .iload_n 2, 25, 0), (25, .iconst 0, 26, 0), (26, .invokestatic 99, 29, 0), (29, .iload_n 3, 30, 0), (30, .iadd, 31, 0), (31, .aload_n 0, 32, 0), (32, .getfield 16, 35, 0), (35, .iload_n 1, 36, 0), (36, .iconst 0, 37, 0), (37, .invokestatic 99, 40, 0), (40, .iload_n 3, 41, 0), (41, .iadd, 42, 0), (42, .laload, 43, 0), (43, .lastore, 44, 0), (44, .iinc 3 1, 47, 0)]
def tb_Mo_copyClasses_2 : List (Nat × Instr × Nat × Nat) := [(47, .goto (-33), 50, 14), (50, .return_, 51, 0)]
def tb_Mo_copyClasses : List (Nat × Instr × Nat × Nat) := tb_Mo_copyClasses_1 ++ tb_Mo_copyClasses_2
def M_Mo_copyClasses : ax_M := (9, none, tb_Mo_copyClasses, [], false)
def m_Mo_copyClasses : Nat := 87
def tb_Mo_maker_1 : List (Nat × Instr × Nat × Nat) := [(0, .aload_n 0, 1, 0), (1, .iconst 0, 2, 0), (2, .putfield 78, 5, 0), (5, .aload_n 0, 6, 0), (6, .iconst 0, 7, 0), (7, .putfield 81, 10, 0), (10, .aload_n 0, 11, 0), (11, .iconst (-1), 12, 0), (12, .putfield 84, 15, 0), (15, .aload_n 0, 16, 0), (16, .bipush 77, 18, 0), (18, .invokevirtual 103, 21, 0), (21, .aload_n 0, 22, 0), (22, .invokevirtual 87, 25, 0), (25, .bipush 48, 27, 0), (27, .isub, 28, 0), (28, .istore_n 1, 29, 0), (29, .aload_n 0, 30, 0), (30, .getfield 84, 33, 0), (33, .iconst (-1), 34, 0), (34, .if_icmp .ne 18, 37, 52), (37, .aload_n 0, 38, 0), (38, .invokevirtual 91, 41, 0), (41, .ifCond .ne 11, 44, 52), (44, .aload_n 0, 45, 0), (45, .aload_n 0, 46, 0), (46, .getfield 81, 49, 0), (49, .putfield 84, 52, 0), (52, .aload_n 0, 53, 0), (53, .getfield 84, 56, 0)]
def tb_Mo_maker_2 : List (Nat × Instr × Nat × Nat) := [(56, .iconst (-1), 57, 0), (57, .if_icmp .ne 21, 60, 78), (60, .iload_n 1, 61, 0), (61, .aload_n 0, 62, 0), (62, .getfield 63, 65, 0), (65, .if_icmp .gt 8, 68, 73), (68, .iload_n 1, 69, 0), (69, .iconst 3, 70, 0), (70, .if_icmp .le 8, 73, 78), (73, .aload_n 0, 74, 0), (74, .iconst 0, 75, 0), (75, .putfield 84, 78, 0), (78, .aload_n 0, 79, 0), (79, .dup, 80, 0), (80, .getfield 81, 83, 0), (83, .iconst 1, 84, 0), (84, .iadd, 85, 0), (85, .putfield 81, 88, 0), (88, .iconst 0, 89, 0), (89, .istore_n 2, 90, 0), (90, .aload_n 0, 91, 0), (91, .getfield 84, 94, 0), (94, .iconst (-1), 95, 0), (95, .if_icmp .ne 29, 98, 124), (98, .iload_n 2, 99, 0), (99, .ifCond .eq 14, 102, 113), (102, .aload_n 0, 103, 0), (103, .getfield 81, 106, 0), (106, .aload_n 0, 107, 0), (107, .getfield 59, 110, 0)]
def tb_Mo_maker_3 : List (Nat × Instr × Nat × Nat) := [(110, .if_icmp .ge 14, 113, 124), (113, .aload_n 0, 114, 0), (114, .iload_n 2, 115, 0), (115, .invokevirtual 115, 118, 0), (118, .iinc 2 1, 121, 0), (121, .goto (-31), 124, 90), (124, .aload_n 0, 125, 0), (125, .iconst 0, 126, 0), (126, .putfield 59, 129, 0), (129, .aload_n 0, 130, 0), (130, .getfield 84, 133, 0), (133, .iconst (-1), 134, 0), (134, .if_icmp .eq 10, 137, 144), (137, .iconst (-1), 138, 0), (138, .aload_n 0, 139, 0), (139, .getfield 84, 142, 0), (142, .isub, 143, 0), (143, .ireturn, 144, 0), (144, .aload_n 0, 145, 0), (145, .bipush 14, 147, 0), (147, .iload_n 1, 148, 0), (148, .invokevirtual 118, 151, 0), (151, .iload_n 1, 152, 0), (152, .aload_n 0, 153, 0), (153, .getfield 63, 156, 0), (156, .if_icmp .ne 13, 159, 169), (159, .aload_n 0, 160, 0), (160, .dup, 161, 0), (161, .getfield 63, 164, 0), (164, .iconst 1, 165, 0)]
def tb_Mo_maker_4 : List (Nat × Instr × Nat × Nat) := [(165, .iadd, 166, 0), (166, .putfield 63, 169, 0), (169, .iload_n 1, 170, 0), (170, .ireturn, 171, 0)]
def tb_Mo_maker : List (Nat × Instr × Nat × Nat) := tb_Mo_maker_1 ++ (tb_Mo_maker_2 ++ (tb_Mo_maker_3 ++ tb_Mo_maker_4))
def M_Mo_maker : ax_M := (9, (some .int), tb_Mo_maker, [], false)
def m_Mo_maker : Nat := 88
def tb_Mo_isLayer : List (Nat × Instr × Nat × Nat) := [(0, .iload_n 0, 1, 0), (1, .ifCond .lt 13, 4, 14), (4, .iload_n 0, 5, 0), (5, .bipush 8, 7, 0), (7, .if_icmp .ge 7, 10, 14), (10, .iconst 1, 11, 0), (11, .goto 4, 14, 15), (14, .iconst 0, 15, 0), (15, .ireturn, 16, 0)]
def M_Mo_isLayer : ax_M := (9, (some .boolean), tb_Mo_isLayer, [], false)
def m_Mo_isLayer : Nat := 89
def tb_Mo_thing_1 : List (Nat × Instr × Nat × Nat) := [(0, .iload_n 1, 1, 0), (1, .ifCond .lt 21, 4, 22), (4, .iload_n 1, 5, 0), (5, .bipush 6, 7, 0), (7, .if_icmp .ge 15, 10, 22), (10, .iload 4, 12, 0), (12, .invokestatic 122, 15, 0), (15, .ifCond .eq 7, 18, 22), (18, .iconst 1, 19, 0), (19, .goto 4, 22, 23), (22, .iconst 0, 23, 0), (23, .istore 5, 25, 0), (25, .aload_n 0, 26, 0), (26, .iload 5, 28, 0), (28, .ifCond .ne 7, 31, 35), (31, .iconst 1, 32, 0), (32, .goto 22, 35, 54), (35, .lload_n 2, 36, 0), (36, .lconst 0, 37, 0), (37, .lcmp, 38, 0), (38, .ifCond .lt 11, 41, 49), (41, .lload_n 2, 42, 0), (42, .ldc2_w 111, 45, 0), (45, .lcmp, 46, 0), (46, .ifCond .le 7, 49, 53), (49, .iconst 2, 50, 0), (50, .goto 4, 53, 54), (53, .iconst 0, 54, 0), (54, .putfield 78, 57, 0), (57, .aload_n 0, 58, 0)]
def tb_Mo_thing_2 : List (Nat × Instr × Nat × Nat) := [(58, .getfield 78, 61, 0), (61, .ifCond .eq 5, 64, 66), (64, .iconst 0, 65, 0), (65, .ireturn, 66, 0), (66, .aload_n 0, 67, 0), (67, .getfield 66, 70, 0), (70, .bipush 60, 72, 0), (72, .if_icmp .ne 5, 75, 77), (75, .iconst (-1), 76, 0), (76, .ireturn, 77, 0), (77, .aload_n 0, 78, 0), (78, .getfield 20, 81, 0), (81, .aload_n 0, 82, 0), (82, .getfield 66, 85, 0), (85, .iload_n 1, 86, 0), (86, .iastore, 87, 0), (87, .aload_n 0, 88, 0), (88, .getfield 23, 91, 0), (91, .aload_n 0, 92, 0), (92, .getfield 66, 95, 0), (95, .lload_n 2, 96, 0), (96, .lastore, 97, 0), (97, .aload_n 0, 98, 0), (98, .getfield 26, 101, 0), (101, .aload_n 0, 102, 0), (102, .getfield 66, 105, 0), (105, .iload 4, 107, 0), (107, .iastore, 108, 0), (108, .aload_n 0, 109, 0), (109, .getfield 29, 112, 0)]
def tb_Mo_thing_3 : List (Nat × Instr × Nat × Nat) := [(112, .aload_n 0, 113, 0), (113, .getfield 66, 116, 0), (116, .lconst 0, 117, 0), (117, .lastore, 118, 0), (118, .aload_n 0, 119, 0), (119, .getfield 32, 122, 0), (122, .aload_n 0, 123, 0), (123, .getfield 66, 126, 0), (126, .lconst 0, 127, 0), (127, .lastore, 128, 0), (128, .aload_n 0, 129, 0), (129, .dup, 130, 0), (130, .getfield 66, 133, 0), (133, .iconst 1, 134, 0), (134, .iadd, 135, 0), (135, .putfield 66, 138, 0), (138, .aload_n 0, 139, 0), (139, .getfield 66, 142, 0), (142, .iconst 1, 143, 0), (143, .isub, 144, 0), (144, .ireturn, 145, 0)]
def tb_Mo_thing : List (Nat × Instr × Nat × Nat) := tb_Mo_thing_1 ++ (tb_Mo_thing_2 ++ tb_Mo_thing_3)
def M_Mo_thing : ax_M := (9, (some .int), tb_Mo_thing, [], false)
def m_Mo_thing : Nat := 90
def tb_Mo_isPlace : List (Nat × Instr × Nat × Nat) := [(0, .lload_n 0, 1, 0), (1, .ldc2_w 126, 4, 0), (4, .lcmp, 5, 0), (5, .ifCond .lt 15, 8, 20), (8, .lload_n 0, 9, 0), (9, .ldc2_w 111, 12, 0), (12, .lcmp, 13, 0), (13, .ifCond .gt 7, 16, 20), (16, .iconst 1, 17, 0), (17, .goto 4, 20, 21), (20, .iconst 0, 21, 0), (21, .ireturn, 22, 0)]
def M_Mo_isPlace : ax_M := (9, (some .boolean), tb_Mo_isPlace, [], false)
def m_Mo_isPlace : Nat := 91
def tb_Mo_at_1 : List (Nat × Instr × Nat × Nat) := [(0, .aload_n 0, 1, 0), (1, .iload_n 1, 2, 0), (2, .ifCond .lt 11, 5, 13), (5, .iload_n 1, 6, 0), (6, .aload_n 0, 7, 0), (7, .getfield 66, 10, 0), (10, .if_icmp .lt 7, 13, 17), (13, .iconst 1, 14, 0), (14, .goto 23, 17, 37), (17, .lload_n 2, 18, 0), (18, .invokestatic 128, 21, 0), (21, .ifCond .eq 15, 24, 36), (24, .lload 4, 26, 0), (26, .invokestatic 128, 29, 0), (29, .ifCond .eq 7, 32, 36), (32, .iconst 0, 33, 0), (33, .goto 4, 36, 37), (36, .iconst 2, 37, 0), (37, .putfield 78, 40, 0), (40, .aload_n 0, 41, 0), (41, .getfield 78, 44, 0), (44, .ifCond .ne 26, 47, 70), (47, .aload_n 0, 48, 0), (48, .getfield 29, 51, 0), (51, .iload_n 1, 52, 0), (52, .laload, 53, 0), (53, .lload_n 2, 54, 0), (54, .lcmp, 55, 0), (55, .ifCond .ne 17, 58, 72), (58, .aload_n 0, 59, 0)]
def tb_Mo_at_2 : List (Nat × Instr × Nat × Nat) := [(59, .getfield 32, 62, 0), (62, .iload_n 1, 63, 0), (63, .laload, 64, 0), (64, .lload 4, 66, 0), (66, .lcmp, 67, 0), (67, .ifCond .ne 5, 70, 72), (70, .iconst 0, 71, 0), (71, .ireturn, 72, 0), (72, .aload_n 0, 73, 0), (73, .getfield 29, 76, 0), (76, .iload_n 1, 77, 0), (77, .lload_n 2, 78, 0), (78, .lastore, 79, 0), (79, .aload_n 0, 80, 0), (80, .getfield 32, 83, 0), (83, .iload_n 1, 84, 0), (84, .lload 4, 86, 0), (86, .lastore, 87, 0), (87, .iconst 1, 88, 0), (88, .ireturn, 89, 0)]
def tb_Mo_at : List (Nat × Instr × Nat × Nat) := tb_Mo_at_1 ++ tb_Mo_at_2
def M_Mo_at : ax_M := (9, (some .boolean), tb_Mo_at, [], false)
def m_Mo_at : Nat := 92
def tb_Mo_beyond_1 : List (Nat × Instr × Nat × Nat) := [(0, .aload_n 0, 1, 0), (1, .getfield 16, 4, 0), (4, .iload_n 1, 5, 0), (5, .iload_n 2, 6, 0), (6, .invokestatic 99, 9, 0), (9, .aload_n 0, 10, 0), (10, .getfield 20, 13, 0), (13, .iload_n 3, 14, 0), (14, .iaload, 15, 0), (15, .iadd, 16, 0), (16, .laload, 17, 0), (17, .lstore 4, 19, 0), (19, .aload_n 0, 20, 0), (20, .getfield 20, 23, 0), (23, .iload_n 3, 24, 0), (24, .iaload, 25, 0), (25, .iconst 4, 26, 0), (26, .if_icmp .ge 15, 29, 41), (29, .lload 4, 31, 0), (31, .aload_n 0, 32, 0), (32, .getfield 23, 35, 0), (35, .iload_n 3, 36, 0), (36, .laload, 37, 0), (37, .lsub, 38, 0), (38, .goto 12, 41, 50), (41, .aload_n 0, 42, 0), (42, .getfield 23, 45, 0), (45, .iload_n 3, 46, 0), (46, .laload, 47, 0), (47, .lload 4, 49, 0)]
def tb_Mo_beyond_2 : List (Nat × Instr × Nat × Nat) := [(49, .lsub, 50, 0), (50, .lreturn, 51, 0)]
def tb_Mo_beyond : List (Nat × Instr × Nat × Nat) := tb_Mo_beyond_1 ++ tb_Mo_beyond_2
def M_Mo_beyond : ax_M := (9, (some .long), tb_Mo_beyond, [], false)
def m_Mo_beyond : Nat := 93
def tb_Mo_makes : List (Nat × Instr × Nat × Nat) := [(0, .iconst 1, 1, 0), (1, .istore_n 3, 2, 0), (2, .iconst 0, 3, 0), (3, .istore 4, 5, 0), (5, .iload 4, 7, 0), (7, .aload_n 0, 8, 0), (8, .getfield 66, 11, 0), (11, .if_icmp .ge 32, 14, 43), (14, .iload_n 3, 15, 0), (15, .ifCond .eq 20, 18, 35), (18, .aload_n 0, 19, 0), (19, .iload_n 1, 20, 0), (20, .iload_n 2, 21, 0), (21, .iload 4, 23, 0), (23, .invokevirtual 132, 26, 0), (26, .lconst 0, 27, 0), (27, .lcmp, 28, 0), (28, .ifCond .gt 7, 31, 35), (31, .iconst 1, 32, 0), (32, .goto 4, 35, 36), (35, .iconst 0, 36, 0), (36, .istore_n 3, 37, 0), (37, .iinc 4 1, 40, 0), (40, .goto (-35), 43, 5), (43, .iload_n 3, 44, 0), (44, .ireturn, 45, 0)]
def M_Mo_makes : ax_M := (9, (some .boolean), tb_Mo_makes, [], false)
def m_Mo_makes : Nat := 94
def tb_Mo_leastOf : List (Nat × Instr × Nat × Nat) := [(0, .iconst 0, 1, 0), (1, .istore_n 2, 2, 0), (2, .iload_n 2, 3, 0), (3, .aload_n 0, 4, 0), (4, .getfield 13, 7, 0), (7, .iload_n 1, 8, 0), (8, .iaload, 9, 0), (9, .if_icmp .ge 20, 12, 29), (12, .aload_n 0, 13, 0), (13, .iload_n 1, 14, 0), (14, .iload_n 2, 15, 0), (15, .invokevirtual 136, 18, 0), (18, .ifCond .eq 5, 21, 23), (21, .iload_n 2, 22, 0), (22, .ireturn, 23, 0), (23, .iinc 2 1, 26, 0), (26, .goto (-24), 29, 2), (29, .iconst (-1), 30, 0), (30, .ireturn, 31, 0)]
def M_Mo_leastOf : ax_M := (9, (some .int), tb_Mo_leastOf, [], false)
def m_Mo_leastOf : Nat := 95
def tb_Mo_isMaker : List (Nat × Instr × Nat × Nat) := [(0, .iload_n 1, 1, 0), (1, .ifCond .lt 15, 4, 16), (4, .iload_n 1, 5, 0), (5, .aload_n 0, 6, 0), (6, .getfield 63, 9, 0), (9, .if_icmp .ge 7, 12, 16), (12, .iconst 1, 13, 0), (13, .goto 4, 16, 17), (16, .iconst 0, 17, 0), (17, .ireturn, 18, 0)]
def M_Mo_isMaker : ax_M := (9, (some .boolean), tb_Mo_isMaker, [], false)
def m_Mo_isMaker : Nat := 96
def tb_Mo_isClass : List (Nat × Instr × Nat × Nat) := [(0, .aload_n 0, 1, 0), (1, .iload_n 1, 2, 0), (2, .invokevirtual 140, 5, 0), (5, .ifCond .eq 21, 8, 26), (8, .iload_n 2, 9, 0), (9, .ifCond .lt 17, 12, 26), (12, .iload_n 2, 13, 0), (13, .aload_n 0, 14, 0), (14, .getfield 13, 17, 0), (17, .iload_n 1, 18, 0), (18, .iaload, 19, 0), (19, .if_icmp .ge 7, 22, 26), (22, .iconst 1, 23, 0), (23, .goto 4, 26, 27), (26, .iconst 0, 27, 0), (27, .ireturn, 28, 0)]
def M_Mo_isClass : ax_M := (9, (some .boolean), tb_Mo_isClass, [], false)
def m_Mo_isClass : Nat := 97
def tb_Mo_run_1 : List (Nat × Instr × Nat × Nat) := [(0, .aload_n 0, 1, 0), (1, .aload_n 0, 2, 0), (2, .iload_n 1, 3, 0), (3, .iload_n 2, 4, 0), (4, .invokevirtual 143, 7, 0), (7, .ifCond .eq 7, 10, 14), (10, .iconst 0, 11, 0), (11, .goto 4, 14, 15), (14, .iconst 1, 15, 0), (15, .putfield 78, 18, 0), (18, .aload_n 0, 19, 0), (19, .getfield 78, 22, 0), (22, .ifCond .eq 5, 25, 27), (25, .iconst 0, 26, 0), (26, .ireturn, 27, 0), (27, .aload_n 0, 28, 0), (28, .iconst 0, 29, 0), (29, .putfield 69, 32, 0), (32, .iconst 0, 33, 0), (33, .istore_n 3, 34, 0), (34, .iload_n 3, 35, 0), (35, .aload_n 0, 36, 0), (36, .getfield 66, 39, 0), (39, .if_icmp .ge 60, 42, 99), (42, .aload_n 0, 43, 0), (43, .iload_n 1, 44, 0), (44, .iload_n 2, 45, 0), (45, .iload_n 3, 46, 0), (46, .invokevirtual 132, 49, 0), (49, .lconst 0, 50, 0)]
def tb_Mo_run_2 : List (Nat × Instr × Nat × Nat) := [(50, .lcmp, 51, 0), (51, .ifCond .gt 6, 54, 57), (54, .goto 39, 57, 93), (57, .aload_n 0, 58, 0), (58, .getfield 35, 61, 0), (61, .aload_n 0, 62, 0), (62, .getfield 69, 65, 0), (65, .iload_n 3, 66, 0), (66, .iastore, 67, 0), (67, .aload_n 0, 68, 0), (68, .getfield 38, 71, 0), (71, .aload_n 0, 72, 0), (72, .getfield 69, 75, 0), (75, .aload_n 0, 76, 0), (76, .iload_n 1, 77, 0), (77, .iload_n 2, 78, 0), (78, .iload_n 3, 79, 0), (79, .invokevirtual 132, 82, 0), (82, .lastore, 83, 0), (83, .aload_n 0, 84, 0), (84, .dup, 85, 0), (85, .getfield 69, 88, 0), (88, .iconst 1, 89, 0), (89, .iadd, 90, 0), (90, .putfield 69, 93, 0), (93, .iinc 3 1, 96, 0), (96, .goto (-62), 99, 34), (99, .aload_n 0, 100, 0), (100, .getfield 69, 103, 0), (103, .ireturn, 104, 0)]
def tb_Mo_run : List (Nat × Instr × Nat × Nat) := tb_Mo_run_1 ++ tb_Mo_run_2
def M_Mo_run : ax_M := (9, (some .int), tb_Mo_run, [], false)
def m_Mo_run : Nat := 98
def tb_Mo_remark_1 : List (Nat × Instr × Nat × Nat) := [(0, .aload_n 0, 1, 0), (1, .iload_n 2, 2, 0), (2, .ifCond .lt 13, 5, 15), (5, .iload_n 2, 6, 0), (6, .bipush 6, 8, 0), (8, .if_icmp .ge 7, 11, 15), (11, .iconst 0, 12, 0), (12, .goto 4, 15, 16), (15, .iconst 1, 16, 0), (16, .putfield 78, 19, 0), (19, .aload_n 0, 20, 0), (20, .getfield 78, 23, 0), (23, .ifCond .eq 5, 26, 28), (26, .iconst 0, 27, 0), (27, .ireturn, 28, 0), (28, .iload_n 1, 29, 0), (29, .ifCond .lt 11, 32, 40), (32, .iload_n 1, 33, 0), (33, .aload_n 0, 34, 0), (34, .getfield 69, 37, 0), (37, .if_icmp .lt 5, 40, 42), (40, .iconst (-1), 41, 0), (41, .ireturn, 42, 0), (42, .aload_n 0, 43, 0), (43, .getfield 35, 46, 0), (46, .iload_n 1, 47, 0), (47, .iaload, 48, 0), (48, .istore_n 3, 49, 0), (49, .iload_n 2, 50, 0), (50, .tableswitch 66 0 4 #[34, 36, 43, 51, 58], 84, 0)]
def tb_Mo_remark_2 : List (Nat × Instr × Nat × Nat) := [(84, .iload_n 3, 85, 0), (85, .ireturn, 86, 0), (86, .aload_n 0, 87, 0), (87, .getfield 20, 90, 0), (90, .iload_n 3, 91, 0), (91, .iaload, 92, 0), (92, .ireturn, 93, 0), (93, .aload_n 0, 94, 0), (94, .getfield 38, 97, 0), (97, .iload_n 1, 98, 0), (98, .laload, 99, 0), (99, .l2i, 100, 0), (100, .ireturn, 101, 0), (101, .aload_n 0, 102, 0), (102, .getfield 26, 105, 0), (105, .iload_n 3, 106, 0), (106, .iaload, 107, 0), (107, .ireturn, 108, 0), (108, .aload_n 0, 109, 0), (109, .getfield 29, 112, 0), (112, .iload_n 3, 113, 0), (113, .laload, 114, 0), (114, .l2i, 115, 0), (115, .ireturn, 116, 0), (116, .aload_n 0, 117, 0), (117, .getfield 32, 120, 0), (120, .iload_n 3, 121, 0), (121, .laload, 122, 0), (122, .l2i, 123, 0), (123, .ireturn, 124, 0)]
def tb_Mo_remark : List (Nat × Instr × Nat × Nat) := tb_Mo_remark_1 ++ tb_Mo_remark_2
def M_Mo_remark : ax_M := (9, (some .int), tb_Mo_remark, [], false)
def m_Mo_remark : Nat := 99
def tb_Mo_least : List (Nat × Instr × Nat × Nat) := [(0, .aload_n 0, 1, 0), (1, .aload_n 0, 2, 0), (2, .iload_n 1, 3, 0), (3, .invokevirtual 140, 6, 0), (6, .ifCond .eq 7, 9, 13), (9, .iconst 0, 10, 0), (10, .goto 4, 13, 14), (13, .iconst 1, 14, 0), (14, .putfield 78, 17, 0), (17, .aload_n 0, 18, 0), (18, .getfield 78, 21, 0), (21, .ifCond .ne 11, 24, 32), (24, .aload_n 0, 25, 0), (25, .iload_n 1, 26, 0), (26, .invokevirtual 146, 29, 0), (29, .goto 4, 32, 33), (32, .iconst 0, 33, 0), (33, .ireturn, 34, 0)]
def M_Mo_least : ax_M := (9, (some .int), tb_Mo_least, [], false)
def m_Mo_least : Nat := 100
def tb_Mo_isQuantity : List (Nat × Instr × Nat × Nat) := [(0, .lload_n 0, 1, 0), (1, .lconst 1, 2, 0), (2, .lcmp, 3, 0), (3, .ifCond .lt 15, 6, 18), (6, .lload_n 0, 7, 0), (7, .ldc2_w 111, 10, 0), (10, .lcmp, 11, 0), (11, .ifCond .gt 7, 14, 18), (14, .iconst 1, 15, 0), (15, .goto 4, 18, 19), (18, .iconst 0, 19, 0), (19, .ireturn, 20, 0)]
def M_Mo_isQuantity : ax_M := (9, (some .boolean), tb_Mo_isQuantity, [], false)
def m_Mo_isQuantity : Nat := 101
def tb_Mo_priceOf_1 : List (Nat × Instr × Nat × Nat) := [(0, .iload_n 1, 1, 0), (1, .iload_n 2, 2, 0), (2, .invokestatic 99, 5, 0), (5, .istore 5, 7, 0), (7, .aload_n 0, 8, 0), (8, .getfield 16, 11, 0), (11, .iload 5, 13, 0), (13, .bipush 6, 15, 0), (15, .iadd, 16, 0), (16, .laload, 17, 0), (17, .l2i, 18, 0), (18, .istore 6, 20, 0), (20, .iload 6, 22, 0), (22, .iconst 1, 23, 0), (23, .isub, 24, 0), (24, .istore 7, 26, 0), (26, .iload 7, 28, 0), (28, .ifCond .lt 47, 31, 75), (31, .aload_n 0, 32, 0), (32, .getfield 16, 35, 0), (35, .iload 5, 37, 0), (37, .bipush 8, 39, 0), (39, .iadd, 40, 0), (40, .iconst 2, 41, 0), (41, .iload 7, 43, 0), (43, .imul, 44, 0), (44, .iadd, 45, 0), (45, .laload, 46, 0), (46, .lload_n 3, 47, 0), (47, .lcmp, 48, 0)]
def tb_Mo_priceOf_2 : List (Nat × Instr × Nat × Nat) := [(48, .ifCond .gt 21, 51, 69), (51, .lload_n 3, 52, 0), (52, .aload_n 0, 53, 0), (53, .getfield 16, 56, 0), (56, .iload 5, 58, 0), (58, .bipush 9, 60, 0), (60, .iadd, 61, 0), (61, .iconst 2, 62, 0), (62, .iload 7, 64, 0), (64, .imul, 65, 0), (65, .iadd, 66, 0), (66, .laload, 67, 0), (67, .lmul, 68, 0), (68, .lreturn, 69, 0), (69, .iinc 7 (-1), 72, 0), (72, .goto (-46), 75, 26), (75, .aload_n 0, 76, 0), (76, .getfield 16, 79, 0), (79, .iload 5, 81, 0), (81, .bipush 8, 83, 0), (83, .iadd, 84, 0), (84, .laload, 85, 0), (85, .aload_n 0, 86, 0), (86, .getfield 16, 89, 0), (89, .iload 5, 91, 0), (91, .bipush 9, 93, 0), (93, .iadd, 94, 0), (94, .laload, 95, 0), (95, .lmul, 96, 0), (96, .lreturn, 97, 0)]
def tb_Mo_priceOf : List (Nat × Instr × Nat × Nat) := tb_Mo_priceOf_1 ++ tb_Mo_priceOf_2
def M_Mo_priceOf : ax_M := (9, (some .long), tb_Mo_priceOf, [], false)
def m_Mo_priceOf : Nat := 102
def tb_Mo_price : List (Nat × Instr × Nat × Nat) := [(0, .aload_n 0, 1, 0), (1, .aload_n 0, 2, 0), (2, .iload_n 1, 3, 0), (3, .iload_n 2, 4, 0), (4, .invokevirtual 143, 7, 0), (7, .ifCond .ne 7, 10, 14), (10, .iconst 1, 11, 0), (11, .goto 15, 14, 26), (14, .lload_n 3, 15, 0), (15, .invokestatic 150, 18, 0), (18, .ifCond .eq 7, 21, 25), (21, .iconst 0, 22, 0), (22, .goto 4, 25, 26), (25, .iconst 2, 26, 0), (26, .putfield 78, 29, 0), (29, .aload_n 0, 30, 0), (30, .getfield 78, 33, 0), (33, .ifCond .ne 13, 36, 46), (36, .aload_n 0, 37, 0), (37, .iload_n 1, 38, 0), (38, .iload_n 2, 39, 0), (39, .lload_n 3, 40, 0), (40, .invokevirtual 153, 43, 0), (43, .goto 4, 46, 47), (46, .lconst 0, 47, 0), (47, .lreturn, 48, 0)]
def M_Mo_price : ax_M := (9, (some .long), tb_Mo_price, [], false)
def m_Mo_price : Nat := 103
def tb_Mo_share_1 : List (Nat × Instr × Nat × Nat) := [(0, .aload_n 0, 1, 0), (1, .lload_n 3, 2, 0), (2, .invokestatic 150, 5, 0), (5, .ifCond .eq 9, 8, 14), (8, .lload_n 1, 9, 0), (9, .lconst 0, 10, 0), (10, .lcmp, 11, 0), (11, .ifCond .ge 7, 14, 18), (14, .iconst 2, 15, 0), (15, .goto 21, 18, 36), (18, .iload 5, 20, 0), (20, .ifCond .lt 11, 23, 31), (23, .iload 5, 25, 0), (25, .i2l, 26, 0), (26, .lload_n 3, 27, 0), (27, .lcmp, 28, 0), (28, .ifCond .lt 7, 31, 35), (31, .iconst 1, 32, 0), (32, .goto 4, 35, 36), (35, .iconst 0, 36, 0), (36, .putfield 78, 39, 0), (39, .aload_n 0, 40, 0), (40, .getfield 78, 43, 0), (43, .ifCond .eq 5, 46, 48), (46, .lconst 0, 47, 0), (47, .lreturn, 48, 0), (48, .lload_n 1, 49, 0), (49, .lload_n 3, 50, 0), (50, .ldiv, 51, 0), (51, .iload 5, 53, 0)]
def tb_Mo_share_2 : List (Nat × Instr × Nat × Nat) := [(53, .i2l, 54, 0), (54, .lload_n 1, 55, 0), (55, .lload_n 3, 56, 0), (56, .lrem, 57, 0), (57, .lcmp, 58, 0), (58, .ifCond .ge 7, 61, 65), (61, .lconst 1, 62, 0), (62, .goto 4, 65, 66), (65, .lconst 0, 66, 0), (66, .ladd, 67, 0), (67, .lreturn, 68, 0)]
def tb_Mo_share : List (Nat × Instr × Nat × Nat) := tb_Mo_share_1 ++ tb_Mo_share_2
def M_Mo_share : ax_M := (9, (some .long), tb_Mo_share, [], false)
def m_Mo_share : Nat := 104
def tb_Mo_best_1 : List (Nat × Instr × Nat × Nat) := [(0, .aload_n 0, 1, 0), (1, .lload_n 1, 2, 0), (2, .invokestatic 150, 5, 0), (5, .ifCond .eq 7, 8, 12), (8, .iconst 0, 9, 0), (9, .goto 4, 12, 13), (12, .iconst 1, 13, 0), (13, .putfield 78, 16, 0), (16, .aload_n 0, 17, 0), (17, .getfield 78, 20, 0), (20, .ifCond .eq 5, 23, 25), (23, .iconst 0, 24, 0), (24, .ireturn, 25, 0), (25, .iconst (-1), 26, 0), (26, .istore_n 3, 27, 0), (27, .lconst 0, 28, 0), (28, .lstore 4, 30, 0), (30, .iconst 0, 31, 0), (31, .istore 6, 33, 0), (33, .iload 6, 35, 0), (35, .aload_n 0, 36, 0), (36, .getfield 63, 39, 0), (39, .if_icmp .ge 60, 42, 99), (42, .aload_n 0, 43, 0), (43, .iload 6, 45, 0), (45, .invokevirtual 146, 48, 0), (48, .istore 7, 50, 0), (50, .iload 7, 52, 0), (52, .iconst (-1), 53, 0), (53, .if_icmp .eq 40, 56, 93)]
def tb_Mo_best_2 : List (Nat × Instr × Nat × Nat) := [(56, .iload_n 3, 57, 0), (57, .iconst (-1), 58, 0), (58, .if_icmp .eq 21, 61, 79), (61, .aload_n 0, 62, 0), (62, .iload 6, 64, 0), (64, .iload 7, 66, 0), (66, .lload_n 1, 67, 0), (67, .invokevirtual 153, 70, 0), (70, .lload 4, 72, 0), (72, .lcmp, 73, 0), (73, .ifCond .lt 6, 76, 79), (76, .goto 17, 79, 93), (79, .iload 6, 81, 0), (81, .istore_n 3, 82, 0), (82, .aload_n 0, 83, 0), (83, .iload 6, 85, 0), (85, .iload 7, 87, 0), (87, .lload_n 1, 88, 0), (88, .invokevirtual 153, 91, 0), (91, .lstore 4, 93, 0), (93, .iinc 6 1, 96, 0), (96, .goto (-63), 99, 33), (99, .iload_n 3, 100, 0), (100, .ireturn, 101, 0)]
def tb_Mo_best : List (Nat × Instr × Nat × Nat) := tb_Mo_best_1 ++ tb_Mo_best_2
def M_Mo_best : ax_M := (9, (some .int), tb_Mo_best, [], false)
def m_Mo_best : Nat := 105
def tb_Mo_isCell : List (Nat × Instr × Nat × Nat) := [(0, .iload_n 0, 1, 0), (1, .invokestatic 122, 4, 0), (4, .ifCond .eq 17, 7, 21), (7, .iload_n 1, 8, 0), (8, .ifCond .lt 13, 11, 21), (11, .iload_n 1, 12, 0), (12, .bipush 16, 14, 0), (14, .if_icmp .ge 7, 17, 21), (17, .iconst 1, 18, 0), (18, .goto 4, 21, 22), (21, .iconst 0, 22, 0), (22, .ireturn, 23, 0)]
def M_Mo_isCell : ax_M := (9, (some .boolean), tb_Mo_isCell, [], false)
def m_Mo_isCell : Nat := 106
def tb_Mo_copper_1 : List (Nat × Instr × Nat × Nat) := [(0, .lload 5, 2, 0), (2, .lconst 1, 3, 0), (3, .lcmp, 4, 0), (4, .ifCond .lt 29, 7, 33), (7, .lload 5, 9, 0), (9, .ldc2_w 95, 12, 0), (12, .lcmp, 13, 0), (13, .ifCond .gt 20, 16, 33), (16, .lload_n 3, 17, 0), (17, .lconst 0, 18, 0), (18, .lcmp, 19, 0), (19, .ifCond .lt 14, 22, 33), (22, .lload_n 3, 23, 0), (23, .lload 5, 25, 0), (25, .lcmp, 26, 0), (26, .ifCond .gt 7, 29, 33), (29, .iconst 1, 30, 0), (30, .goto 4, 33, 34), (33, .iconst 0, 34, 0), (34, .istore 7, 36, 0), (36, .aload_n 0, 37, 0), (37, .iload_n 1, 38, 0), (38, .iload_n 2, 39, 0), (39, .invokestatic 157, 42, 0), (42, .ifCond .ne 7, 45, 49), (45, .iconst 1, 46, 0), (46, .goto 13, 49, 59), (49, .iload 7, 51, 0), (51, .ifCond .eq 7, 54, 58), (54, .iconst 0, 55, 0)]
def tb_Mo_copper_2 : List (Nat × Instr × Nat × Nat) := [(55, .goto 4, 58, 59), (58, .iconst 2, 59, 0), (59, .putfield 78, 62, 0), (62, .aload_n 0, 63, 0), (63, .getfield 78, 66, 0), (66, .ifCond .eq 5, 69, 71), (69, .iconst 0, 70, 0), (70, .ireturn, 71, 0), (71, .bipush 16, 73, 0), (73, .iload_n 1, 74, 0), (74, .imul, 75, 0), (75, .iload_n 2, 76, 0), (76, .iadd, 77, 0), (77, .istore 8, 79, 0), (79, .aload_n 0, 80, 0), (80, .getfield 50, 83, 0), (83, .iload 8, 85, 0), (85, .laload, 86, 0), (86, .lload_n 3, 87, 0), (87, .lcmp, 88, 0), (88, .ifCond .ne 16, 91, 104), (91, .aload_n 0, 92, 0), (92, .getfield 53, 95, 0), (95, .iload 8, 97, 0), (97, .laload, 98, 0), (98, .lload 5, 100, 0), (100, .lcmp, 101, 0), (101, .ifCond .eq 7, 104, 108), (104, .iconst 1, 105, 0), (105, .goto 4, 108, 109)]
def tb_Mo_copper_3 : List (Nat × Instr × Nat × Nat) := [(108, .iconst 0, 109, 0), (109, .istore 9, 111, 0), (111, .aload_n 0, 112, 0), (112, .getfield 50, 115, 0), (115, .iload 8, 117, 0), (117, .lload_n 3, 118, 0), (118, .lastore, 119, 0), (119, .aload_n 0, 120, 0), (120, .getfield 53, 123, 0), (123, .iload 8, 125, 0), (125, .lload 5, 127, 0), (127, .lastore, 128, 0), (128, .iload 9, 130, 0), (130, .ireturn, 131, 0)]
def tb_Mo_copper : List (Nat × Instr × Nat × Nat) := tb_Mo_copper_1 ++ (tb_Mo_copper_2 ++ tb_Mo_copper_3)
def M_Mo_copper : ax_M := (9, (some .boolean), tb_Mo_copper, [], false)
def m_Mo_copper : Nat := 107
def tb_Mo_balance_1 : List (Nat × Instr × Nat × Nat) := [(0, .aload_n 0, 1, 0), (1, .iload_n 1, 2, 0), (2, .iload_n 2, 3, 0), (3, .invokestatic 157, 6, 0), (6, .ifCond .eq 16, 9, 22), (9, .iload_n 3, 10, 0), (10, .ifCond .eq 8, 13, 18), (13, .iload_n 3, 14, 0), (14, .iconst 1, 15, 0), (15, .if_icmp .ne 7, 18, 22), (18, .iconst 0, 19, 0), (19, .goto 4, 22, 23), (22, .iconst 1, 23, 0), (23, .putfield 78, 26, 0), (26, .aload_n 0, 27, 0), (27, .getfield 78, 30, 0), (30, .ifCond .eq 5, 33, 35), (33, .lconst 0, 34, 0), (34, .lreturn, 35, 0), (35, .lconst 0, 36, 0), (36, .lstore 4, 38, 0), (38, .bipush 16, 40, 0), (40, .iload_n 1, 41, 0), (41, .imul, 42, 0), (42, .istore 6, 44, 0), (44, .iload 6, 46, 0), (46, .bipush 16, 48, 0), (48, .iload_n 1, 49, 0), (49, .imul, 50, 0), (50, .bipush 16, 52, 0)]
def tb_Mo_balance_2 : List (Nat × Instr × Nat × Nat) := [(52, .iadd, 53, 0), (53, .if_icmp .ge 33, 56, 86), (56, .lload 4, 58, 0), (58, .aload_n 0, 59, 0), (59, .getfield 50, 62, 0), (62, .iload 6, 64, 0), (64, .laload, 65, 0), (65, .ldc2_w 160, 68, 0), (68, .aload_n 0, 69, 0), (69, .getfield 53, 72, 0), (72, .iload 6, 74, 0), (74, .laload, 75, 0), (75, .ldiv, 76, 0), (76, .lmul, 77, 0), (77, .ladd, 78, 0), (78, .lstore 4, 80, 0), (80, .iinc 6 1, 83, 0), (83, .goto (-39), 86, 44), (86, .bipush 16, 88, 0), (88, .iload_n 1, 89, 0), (89, .imul, 90, 0), (90, .iload_n 2, 91, 0), (91, .iadd, 92, 0), (92, .istore 6, 94, 0), (94, .ldc2_w 162, 97, 0), (97, .aload_n 0, 98, 0), (98, .getfield 50, 101, 0), (101, .iload 6, 103, 0), (103, .laload, 104, 0), (104, .lmul, 105, 0)]
def tb_Mo_balance_3 : List (Nat × Instr × Nat × Nat) := [(105, .ldc2_w 160, 108, 0), (108, .aload_n 0, 109, 0), (109, .getfield 53, 112, 0), (112, .iload 6, 114, 0), (114, .laload, 115, 0), (115, .ldiv, 116, 0), (116, .lmul, 117, 0), (117, .lload 4, 119, 0), (119, .lsub, 120, 0), (120, .lstore 7, 122, 0), (122, .lload 7, 124, 0), (124, .lconst 0, 125, 0), (125, .lcmp, 126, 0), (126, .ifCond .ge 10, 129, 136), (129, .lconst 0, 130, 0), (130, .lload 7, 132, 0), (132, .lsub, 133, 0), (133, .goto 5, 136, 138), (136, .lload 7, 138, 0), (138, .lstore 9, 140, 0), (140, .ldc2_w 164, 143, 0), (143, .lstore 11, 145, 0), (145, .lload 9, 147, 0), (147, .lconst 0, 148, 0), (148, .lcmp, 149, 0), (149, .ifCond .eq 21, 152, 170), (152, .lload 11, 154, 0), (154, .lload 9, 156, 0), (156, .lrem, 157, 0), (157, .lstore 13, 159, 0)]
def tb_Mo_balance_4 : List (Nat × Instr × Nat × Nat) := [(159, .lload 9, 161, 0), (161, .lstore 11, 163, 0), (163, .lload 13, 165, 0), (165, .lstore 9, 167, 0), (167, .goto (-22), 170, 145), (170, .iload_n 3, 171, 0), (171, .ifCond .ne 11, 174, 182), (174, .lload 7, 176, 0), (176, .lload 11, 178, 0), (178, .ldiv, 179, 0), (179, .goto 9, 182, 188), (182, .ldc2_w 164, 185, 0), (185, .lload 11, 187, 0), (187, .ldiv, 188, 0), (188, .lreturn, 189, 0)]
def tb_Mo_balance : List (Nat × Instr × Nat × Nat) := tb_Mo_balance_1 ++ (tb_Mo_balance_2 ++ (tb_Mo_balance_3 ++ tb_Mo_balance_4))
def M_Mo_balance : ax_M := (9, (some .long), tb_Mo_balance, [], false)
def m_Mo_balance : Nat := 108
def tb_Mo_quote_1 : List (Nat × Instr × Nat × Nat) := [(0, .aload_n 0, 1, 0), (1, .aload_n 0, 2, 0), (2, .iload_n 1, 3, 0), (3, .invokevirtual 140, 6, 0), (6, .ifCond .eq 7, 9, 13), (9, .iconst 0, 10, 0), (10, .goto 4, 13, 14), (13, .iconst 1, 14, 0), (14, .putfield 78, 17, 0), (17, .aload_n 0, 18, 0), (18, .getfield 78, 21, 0), (21, .ifCond .eq 5, 24, 26), (24, .iconst 0, 25, 0), (25, .ireturn, 26, 0), (26, .aload_n 0, 27, 0), (27, .getfield 72, 30, 0), (30, .bipush 10, 32, 0), (32, .if_icmp .ne 5, 35, 37), (35, .iconst (-1), 36, 0), (36, .ireturn, 37, 0), (37, .aload_n 0, 38, 0), (38, .iload_n 1, 39, 0), (39, .iconst 4, 40, 0), (40, .aload_n 0, 41, 0), (41, .getfield 72, 44, 0), (44, .iadd, 45, 0), (45, .invokevirtual 118, 48, 0), (48, .aload_n 0, 49, 0), (49, .getfield 41, 52, 0), (52, .aload_n 0, 53, 0)]
def tb_Mo_quote_2 : List (Nat × Instr × Nat × Nat) := [(53, .getfield 72, 56, 0), (56, .iload_n 1, 57, 0), (57, .iastore, 58, 0), (58, .aload_n 0, 59, 0), (59, .getfield 44, 62, 0), (62, .aload_n 0, 63, 0), (63, .getfield 72, 66, 0), (66, .lload_n 2, 67, 0), (67, .lastore, 68, 0), (68, .aload_n 0, 69, 0), (69, .dup, 70, 0), (70, .getfield 72, 73, 0), (73, .iconst 1, 74, 0), (74, .iadd, 75, 0), (75, .putfield 72, 78, 0), (78, .aload_n 0, 79, 0), (79, .getfield 72, 82, 0), (82, .iconst 1, 83, 0), (83, .isub, 84, 0), (84, .ireturn, 85, 0)]
def tb_Mo_quote : List (Nat × Instr × Nat × Nat) := tb_Mo_quote_1 ++ tb_Mo_quote_2
def M_Mo_quote : ax_M := (9, (some .int), tb_Mo_quote, [], false)
def m_Mo_quote : Nat := 109
def tb_Mo_order_1 : List (Nat × Instr × Nat × Nat) := [(0, .aload_n 0, 1, 0), (1, .aload_n 0, 2, 0), (2, .iload_n 1, 3, 0), (3, .invokevirtual 140, 6, 0), (6, .ifCond .ne 7, 9, 13), (9, .iconst 1, 10, 0), (10, .goto 15, 13, 25), (13, .lload_n 2, 14, 0), (14, .invokestatic 150, 17, 0), (17, .ifCond .eq 7, 20, 24), (20, .iconst 0, 21, 0), (21, .goto 4, 24, 25), (24, .iconst 2, 25, 0), (25, .putfield 78, 28, 0), (28, .aload_n 0, 29, 0), (29, .getfield 78, 32, 0), (32, .ifCond .eq 5, 35, 37), (35, .iconst 0, 36, 0), (36, .ireturn, 37, 0), (37, .aload_n 0, 38, 0), (38, .getfield 72, 41, 0), (41, .iconst 1, 42, 0), (42, .isub, 43, 0), (43, .istore 6, 45, 0), (45, .iload 6, 47, 0), (47, .ifCond .lt 33, 50, 80), (50, .aload_n 0, 51, 0), (51, .getfield 41, 54, 0), (54, .iload 6, 56, 0), (56, .iaload, 57, 0)]
def tb_Mo_order_2 : List (Nat × Instr × Nat × Nat) := [(57, .iload_n 1, 58, 0), (58, .if_icmp .ne 16, 61, 74), (61, .aload_n 0, 62, 0), (62, .getfield 44, 65, 0), (65, .iload 6, 67, 0), (67, .laload, 68, 0), (68, .lload 4, 70, 0), (70, .lcmp, 71, 0), (71, .ifCond .ge 9, 74, 80), (74, .iinc 6 (-1), 77, 0), (77, .goto (-32), 80, 45), (80, .iload 6, 82, 0), (82, .ifCond .ge 7, 85, 89), (85, .iload_n 1, 86, 0), (86, .goto 7, 89, 93), (89, .iconst 4, 90, 0), (90, .iload 6, 92, 0), (92, .iadd, 93, 0), (93, .istore 7, 95, 0), (95, .aload_n 0, 96, 0), (96, .iload 7, 98, 0), (98, .invokevirtual 146, 101, 0), (101, .istore 8, 103, 0), (103, .aload_n 0, 104, 0), (104, .getfield 75, 107, 0), (107, .bipush 20, 109, 0), (109, .if_icmp .eq 9, 112, 118), (112, .iload 8, 114, 0), (114, .iconst (-1), 115, 0), (115, .if_icmp .ne 5, 118, 120)]
def tb_Mo_order_3 : List (Nat × Instr × Nat × Nat) := [(118, .iconst (-1), 119, 0), (119, .ireturn, 120, 0), (120, .bipush 7, 122, 0), (122, .aload_n 0, 123, 0), (123, .getfield 75, 126, 0), (126, .imul, 127, 0), (127, .istore 9, 129, 0), (129, .aload_n 0, 130, 0), (130, .iload 7, 132, 0), (132, .iload 8, 134, 0), (134, .lload_n 2, 135, 0), (135, .invokevirtual 153, 138, 0), (138, .lstore 10, 140, 0), (140, .aload_n 0, 141, 0), (141, .getfield 47, 144, 0), (144, .iload 9, 146, 0), (146, .iload_n 1, 147, 0), (147, .i2l, 148, 0), (148, .lastore, 149, 0), (149, .aload_n 0, 150, 0), (150, .getfield 47, 153, 0), (153, .iload 9, 155, 0), (155, .iconst 1, 156, 0), (156, .iadd, 157, 0), (157, .iload 8, 159, 0), (159, .i2l, 160, 0), (160, .lastore, 161, 0), (161, .aload_n 0, 162, 0), (162, .getfield 47, 165, 0), (165, .iload 9, 167, 0)]
def tb_Mo_order_4 : List (Nat × Instr × Nat × Nat) := [(167, .iconst 2, 168, 0), (168, .iadd, 169, 0), (169, .lload_n 2, 170, 0), (170, .lastore, 171, 0), (171, .aload_n 0, 172, 0), (172, .getfield 47, 175, 0), (175, .iload 9, 177, 0), (177, .iconst 3, 178, 0), (178, .iadd, 179, 0), (179, .aload_n 0, 180, 0), (180, .getfield 16, 183, 0), (183, .iload 7, 185, 0), (185, .iload 8, 187, 0), (187, .invokestatic 99, 190, 0), (190, .bipush 7, 192, 0), (192, .iadd, 193, 0), (193, .laload, 194, 0), (194, .lastore, 195, 0), (195, .aload_n 0, 196, 0), (196, .getfield 47, 199, 0), (199, .iload 9, 201, 0), (201, .iconst 4, 202, 0), (202, .iadd, 203, 0), (203, .lload 10, 205, 0), (205, .ldc2_w 113, 208, 0), (208, .ldiv, 209, 0), (209, .lastore, 210, 0), (210, .aload_n 0, 211, 0), (211, .getfield 47, 214, 0), (214, .iload 9, 216, 0)]
def tb_Mo_order_5 : List (Nat × Instr × Nat × Nat) := [(216, .iconst 5, 217, 0), (217, .iadd, 218, 0), (218, .lload 10, 220, 0), (220, .ldc2_w 113, 223, 0), (223, .lrem, 224, 0), (224, .lastore, 225, 0), (225, .aload_n 0, 226, 0), (226, .getfield 47, 229, 0), (229, .iload 9, 231, 0), (231, .bipush 6, 233, 0), (233, .iadd, 234, 0), (234, .iload 6, 236, 0), (236, .ifCond .ge 9, 239, 245), (239, .ldc2_w 166, 242, 0), (242, .goto 6, 245, 248), (245, .iload 6, 247, 0), (247, .i2l, 248, 0), (248, .lastore, 249, 0), (249, .aload_n 0, 250, 0), (250, .dup, 251, 0), (251, .getfield 75, 254, 0), (254, .iconst 1, 255, 0), (255, .iadd, 256, 0), (256, .putfield 75, 259, 0), (259, .aload_n 0, 260, 0), (260, .getfield 75, 263, 0), (263, .iconst 1, 264, 0), (264, .isub, 265, 0), (265, .ireturn, 266, 0)]
def tb_Mo_order : List (Nat × Instr × Nat × Nat) := tb_Mo_order_1 ++ (tb_Mo_order_2 ++ (tb_Mo_order_3 ++ (tb_Mo_order_4 ++ tb_Mo_order_5)))
def M_Mo_order : ax_M := (9, (some .int), tb_Mo_order, [], false)
def m_Mo_order : Nat := 110
def tb_Mo_history_1 : List (Nat × Instr × Nat × Nat) := [(0, .aload_n 0, 1, 0), (1, .iload_n 1, 2, 0), (2, .ifCond .lt 25, 5, 27), (5, .iload_n 1, 6, 0), (6, .aload_n 0, 7, 0), (7, .getfield 75, 10, 0), (10, .if_icmp .ge 17, 13, 27), (13, .iload_n 2, 14, 0), (14, .ifCond .lt 13, 17, 27), (17, .iload_n 2, 18, 0), (18, .bipush 7, 20, 0), (20, .if_icmp .ge 7, 23, 27), (23, .iconst 0, 24, 0), (24, .goto 4, 27, 28), (27, .iconst 1, 28, 0), (28, .putfield 78, 31, 0), (31, .aload_n 0, 32, 0), (32, .getfield 78, 35, 0), (35, .ifCond .ne 18, 38, 53), (38, .aload_n 0, 39, 0), (39, .getfield 47, 42, 0), (42, .bipush 7, 44, 0), (44, .iload_n 1, 45, 0), (45, .imul, 46, 0), (46, .iload_n 2, 47, 0), (47, .iadd, 48, 0), (48, .laload, 49, 0), (49, .l2i, 50, 0), (50, .goto 4, 53, 54), (53, .iconst 0, 54, 0)]
def tb_Mo_history_2 : List (Nat × Instr × Nat × Nat) := [(54, .ireturn, 55, 0)]
def tb_Mo_history : List (Nat × Instr × Nat × Nat) := tb_Mo_history_1 ++ tb_Mo_history_2
def M_Mo_history : ax_M := (9, (some .int), tb_Mo_history, [], false)
def m_Mo_history : Nat := 111
def tb_La_thing : List (Nat × Instr × Nat × Nat) := [(0, .aload 5, 2, 0), (2, .iconst 0, 3, 0), (3, .aload_n 0, 4, 0), (4, .iload_n 1, 5, 0), (5, .lload_n 2, 6, 0), (6, .iload 4, 8, 0), (8, .invokevirtual 7, 11, 0), (11, .i2l, 12, 0), (12, .lastore, 13, 0), (13, .goto 11, 16, 24), (16, .astore 6, 18, 0), (18, .iconst 1, 19, 0), (19, .ireturn, 20, 0), (20, .astore 6, 22, 0), (22, .iconst 2, 23, 0), (23, .ireturn, 24, 0), (24, .iconst 0, 25, 0), (25, .ireturn, 26, 0)]
def M_La_thing : ax_M := (10, (some .int), tb_La_thing, [(0, 13, 16, 13), (0, 13, 20, 15)], false)
def m_La_thing : Nat := 112
def tb_La_at : List (Nat × Instr × Nat × Nat) := [(0, .aload 6, 2, 0), (2, .iconst 0, 3, 0), (3, .aload_n 0, 4, 0), (4, .iload_n 1, 5, 0), (5, .lload_n 2, 6, 0), (6, .lload 4, 8, 0), (8, .invokevirtual 17, 11, 0), (11, .ifCond .eq 7, 14, 18), (14, .lconst 1, 15, 0), (15, .goto 4, 18, 19), (18, .lconst 0, 19, 0), (19, .lastore, 20, 0), (20, .goto 11, 23, 31), (23, .astore 7, 25, 0), (25, .iconst 1, 26, 0), (26, .ireturn, 27, 0), (27, .astore 7, 29, 0), (29, .iconst 2, 30, 0), (30, .ireturn, 31, 0), (31, .iconst 0, 32, 0), (32, .ireturn, 33, 0)]
def M_La_at : ax_M := (10, (some .int), tb_La_at, [(0, 20, 23, 13), (0, 20, 27, 15)], false)
def m_La_at : Nat := 113
def tb_La_run : List (Nat × Instr × Nat × Nat) := [(0, .aload_n 3, 1, 0), (1, .iconst 0, 2, 0), (2, .aload_n 0, 3, 0), (3, .iload_n 1, 4, 0), (4, .iload_n 2, 5, 0), (5, .invokevirtual 21, 8, 0), (8, .i2l, 9, 0), (9, .lastore, 10, 0), (10, .goto 7, 13, 17), (13, .astore 4, 15, 0), (15, .iconst 1, 16, 0), (16, .ireturn, 17, 0), (17, .iconst 0, 18, 0), (18, .ireturn, 19, 0)]
def M_La_run : ax_M := (10, (some .int), tb_La_run, [(0, 10, 13, 13)], false)
def m_La_run : Nat := 114
def tb_La_remark : List (Nat × Instr × Nat × Nat) := [(0, .aload_n 3, 1, 0), (1, .iconst 0, 2, 0), (2, .aload_n 0, 3, 0), (3, .iload_n 1, 4, 0), (4, .iload_n 2, 5, 0), (5, .invokevirtual 25, 8, 0), (8, .i2l, 9, 0), (9, .lastore, 10, 0), (10, .goto 7, 13, 17), (13, .astore 4, 15, 0), (15, .iconst 1, 16, 0), (16, .ireturn, 17, 0), (17, .iconst 0, 18, 0), (18, .ireturn, 19, 0)]
def M_La_remark : ax_M := (10, (some .int), tb_La_remark, [(0, 10, 13, 13)], false)
def m_La_remark : Nat := 115
def tb_La_least : List (Nat × Instr × Nat × Nat) := [(0, .aload_n 2, 1, 0), (1, .iconst 0, 2, 0), (2, .aload_n 0, 3, 0), (3, .iload_n 1, 4, 0), (4, .invokevirtual 28, 7, 0), (7, .i2l, 8, 0), (8, .lastore, 9, 0), (9, .goto 6, 12, 15), (12, .astore_n 3, 13, 0), (13, .iconst 1, 14, 0), (14, .ireturn, 15, 0), (15, .iconst 0, 16, 0), (16, .ireturn, 17, 0)]
def M_La_least : ax_M := (10, (some .int), tb_La_least, [(0, 9, 12, 13)], false)
def m_La_least : Nat := 116
def tb_La_price : List (Nat × Instr × Nat × Nat) := [(0, .aload 5, 2, 0), (2, .iconst 0, 3, 0), (3, .aload_n 0, 4, 0), (4, .iload_n 1, 5, 0), (5, .iload_n 2, 6, 0), (6, .lload_n 3, 7, 0), (7, .invokevirtual 32, 10, 0), (10, .lastore, 11, 0), (11, .goto 11, 14, 22), (14, .astore 6, 16, 0), (16, .iconst 1, 17, 0), (17, .ireturn, 18, 0), (18, .astore 6, 20, 0), (20, .iconst 2, 21, 0), (21, .ireturn, 22, 0), (22, .iconst 0, 23, 0), (23, .ireturn, 24, 0)]
def M_La_price : ax_M := (10, (some .int), tb_La_price, [(0, 11, 14, 13), (0, 11, 18, 15)], false)
def m_La_price : Nat := 117
def tb_La_share : List (Nat × Instr × Nat × Nat) := [(0, .aload 6, 2, 0), (2, .iconst 0, 3, 0), (3, .aload_n 0, 4, 0), (4, .lload_n 1, 5, 0), (5, .lload_n 3, 6, 0), (6, .iload 5, 8, 0), (8, .invokevirtual 36, 11, 0), (11, .lastore, 12, 0), (12, .goto 11, 15, 23), (15, .astore 7, 17, 0), (17, .iconst 1, 18, 0), (18, .ireturn, 19, 0), (19, .astore 7, 21, 0), (21, .iconst 2, 22, 0), (22, .ireturn, 23, 0), (23, .iconst 0, 24, 0), (24, .ireturn, 25, 0)]
def M_La_share : ax_M := (10, (some .int), tb_La_share, [(0, 12, 15, 13), (0, 12, 19, 15)], false)
def m_La_share : Nat := 118
def tb_La_balance : List (Nat × Instr × Nat × Nat) := [(0, .aload 4, 2, 0), (2, .iconst 0, 3, 0), (3, .aload_n 0, 4, 0), (4, .iload_n 1, 5, 0), (5, .iload_n 2, 6, 0), (6, .iload_n 3, 7, 0), (7, .invokevirtual 40, 10, 0), (10, .lastore, 11, 0), (11, .goto 7, 14, 18), (14, .astore 5, 16, 0), (16, .iconst 1, 17, 0), (17, .ireturn, 18, 0), (18, .iconst 0, 19, 0), (19, .ireturn, 20, 0)]
def M_La_balance : ax_M := (10, (some .int), tb_La_balance, [(0, 11, 14, 13)], false)
def m_La_balance : Nat := 119
def tb_La_quote : List (Nat × Instr × Nat × Nat) := [(0, .aload 4, 2, 0), (2, .iconst 0, 3, 0), (3, .aload_n 0, 4, 0), (4, .iload_n 1, 5, 0), (5, .lload_n 2, 6, 0), (6, .invokevirtual 44, 9, 0), (9, .i2l, 10, 0), (10, .lastore, 11, 0), (11, .goto 7, 14, 18), (14, .astore 5, 16, 0), (16, .iconst 1, 17, 0), (17, .ireturn, 18, 0), (18, .iconst 0, 19, 0), (19, .ireturn, 20, 0)]
def M_La_quote : ax_M := (10, (some .int), tb_La_quote, [(0, 11, 14, 13)], false)
def m_La_quote : Nat := 120
def tb_La_copper : List (Nat × Instr × Nat × Nat) := [(0, .aload 7, 2, 0), (2, .iconst 0, 3, 0), (3, .aload_n 0, 4, 0), (4, .iload_n 1, 5, 0), (5, .iload_n 2, 6, 0), (6, .lload_n 3, 7, 0), (7, .lload 5, 9, 0), (9, .invokevirtual 48, 12, 0), (12, .ifCond .eq 7, 15, 19), (15, .lconst 1, 16, 0), (16, .goto 4, 19, 20), (19, .lconst 0, 20, 0), (20, .lastore, 21, 0), (21, .goto 11, 24, 32), (24, .astore 8, 26, 0), (26, .iconst 1, 27, 0), (27, .ireturn, 28, 0), (28, .astore 8, 30, 0), (30, .iconst 2, 31, 0), (31, .ireturn, 32, 0), (32, .iconst 0, 33, 0), (33, .ireturn, 34, 0)]
def M_La_copper : ax_M := (10, (some .int), tb_La_copper, [(0, 21, 24, 13), (0, 21, 28, 15)], false)
def m_La_copper : Nat := 121
def tb_La_best : List (Nat × Instr × Nat × Nat) := [(0, .aload_n 3, 1, 0), (1, .iconst 0, 2, 0), (2, .aload_n 0, 3, 0), (3, .lload_n 1, 4, 0), (4, .invokevirtual 52, 7, 0), (7, .i2l, 8, 0), (8, .lastore, 9, 0), (9, .goto 7, 12, 16), (12, .astore 4, 14, 0), (14, .iconst 1, 15, 0), (15, .ireturn, 16, 0), (16, .iconst 0, 17, 0), (17, .ireturn, 18, 0)]
def M_La_best : ax_M := (10, (some .int), tb_La_best, [(0, 9, 12, 15)], false)
def m_La_best : Nat := 122
def tb_La_order : List (Nat × Instr × Nat × Nat) := [(0, .aload 6, 2, 0), (2, .iconst 0, 3, 0), (3, .aload_n 0, 4, 0), (4, .iload_n 1, 5, 0), (5, .lload_n 2, 6, 0), (6, .lload 4, 8, 0), (8, .invokevirtual 56, 11, 0), (11, .i2l, 12, 0), (12, .lastore, 13, 0), (13, .goto 11, 16, 24), (16, .astore 7, 18, 0), (18, .iconst 1, 19, 0), (19, .ireturn, 20, 0), (20, .astore 7, 22, 0), (22, .iconst 2, 23, 0), (23, .ireturn, 24, 0), (24, .iconst 0, 25, 0), (25, .ireturn, 26, 0)]
def M_La_order : ax_M := (10, (some .int), tb_La_order, [(0, 13, 16, 13), (0, 13, 20, 15)], false)
def m_La_order : Nat := 123
def tb_La_history : List (Nat × Instr × Nat × Nat) := [(0, .aload_n 3, 1, 0), (1, .iconst 0, 2, 0), (2, .aload_n 0, 3, 0), (3, .iload_n 1, 4, 0), (4, .iload_n 2, 5, 0), (5, .invokevirtual 60, 8, 0), (8, .i2l, 9, 0), (9, .lastore, 10, 0), (10, .goto 7, 13, 17), (13, .astore 4, 15, 0), (15, .iconst 1, 16, 0), (16, .ireturn, 17, 0), (17, .iconst 0, 18, 0), (18, .ireturn, 19, 0)]
def M_La_history : ax_M := (10, (some .int), tb_La_history, [(0, 10, 13, 13)], false)
def m_La_history : Nat := 124
def tb_La_law_1 : List (Nat × Instr × Nat × Nat) := [(0, .new 8, 3, 0), (3, .dup, 4, 0), (4, .invokespecial 63, 7, 0), (7, .astore_n 1, 8, 0), (8, .new 64, 11, 0), (11, .dup, 12, 0), (12, .invokespecial 66, 15, 0), (15, .astore_n 2, 16, 0), (16, .iconst 1, 17, 0), (17, .newarray .long, 19, 0), (19, .astore_n 3, 20, 0), (20, .iconst 0, 21, 0), (21, .istore 4, 23, 0), (23, .iload 4, 25, 0), (25, .aload_n 0, 26, 0), (26, .arraylength, 27, 0), (27, .bipush 7, 29, 0), (29, .isub, 30, 0), (30, .if_icmp .gt 1498, 33, 1528), (33, .aload_n 0, 34, 0), (34, .iload 4, 36, 0), (36, .iaload, 37, 0), (37, .bipush 15, 39, 0), (39, .iand, 40, 0), (40, .tableswitch 1482 0 15 #[80, 105, 118, 230, 381, 449, 517, 573, 684, 827, 906, 1006, 1171, 1259, 1403, 1471], 120, 0), (120, .aload_n 1, 121, 0), (121, .aload_n 0, 122, 0), (122, .iload 4, 124, 0), (124, .iconst 1, 125, 0), (125, .iadd, 126, 0)]
def tb_La_law_2 : List (Nat × Instr × Nat × Nat) := [(126, .iaload, 127, 0), (127, .invokevirtual 67, 130, 0), (130, .aload_n 2, 131, 0), (131, .aload_n 0, 132, 0), (132, .iload 4, 134, 0), (134, .iconst 1, 135, 0), (135, .iadd, 136, 0), (136, .iaload, 137, 0), (137, .invokevirtual 71, 140, 0), (140, .if_icmp .eq 1382, 143, 1522), (143, .iconst 0, 144, 0), (144, .ireturn, 145, 0), (145, .aload_n 1, 146, 0), (146, .invokevirtual 72, 149, 0), (149, .aload_n 2, 150, 0), (150, .invokevirtual 76, 153, 0), (153, .if_icmp .eq 1369, 156, 1522), (156, .iconst 0, 157, 0), (157, .ireturn, 158, 0), (158, .aload_n 1, 159, 0), (159, .aload_n 0, 160, 0), (160, .iload 4, 162, 0), (162, .iconst 1, 163, 0), (163, .iadd, 164, 0), (164, .iaload, 165, 0), (165, .aload_n 0, 166, 0), (166, .iload 4, 168, 0), (168, .iconst 2, 169, 0), (169, .iadd, 170, 0), (170, .iaload, 171, 0)]
def tb_La_law_3 : List (Nat × Instr × Nat × Nat) := [(171, .i2l, 172, 0), (172, .bipush 32, 174, 0), (174, .lshl, 175, 0), (175, .aload_n 0, 176, 0), (176, .iload 4, 178, 0), (178, .iconst 3, 179, 0), (179, .iadd, 180, 0), (180, .iaload, 181, 0), (181, .i2l, 182, 0), (182, .ldc2_w 77, 185, 0), (185, .land, 186, 0), (186, .lor, 187, 0), (187, .aload_n 0, 188, 0), (188, .iload 4, 190, 0), (190, .iconst 4, 191, 0), (191, .iadd, 192, 0), (192, .iaload, 193, 0), (193, .aload_n 3, 194, 0), (194, .invokestatic 79, 197, 0), (197, .istore 5, 199, 0), (199, .aload_n 2, 200, 0), (200, .aload_n 0, 201, 0), (201, .iload 4, 203, 0), (203, .iconst 1, 204, 0), (204, .iadd, 205, 0), (205, .iaload, 206, 0), (206, .aload_n 0, 207, 0), (207, .iload 4, 209, 0), (209, .iconst 2, 210, 0), (210, .iadd, 211, 0)]
def tb_La_law_4 : List (Nat × Instr × Nat × Nat) := [(211, .iaload, 212, 0), (212, .i2l, 213, 0), (213, .bipush 32, 215, 0), (215, .lshl, 216, 0), (216, .aload_n 0, 217, 0), (217, .iload 4, 219, 0), (219, .iconst 3, 220, 0), (220, .iadd, 221, 0), (221, .iaload, 222, 0), (222, .i2l, 223, 0), (223, .ldc2_w 77, 226, 0), (226, .land, 227, 0), (227, .lor, 228, 0), (228, .aload_n 0, 229, 0), (229, .iload 4, 231, 0), (231, .iconst 4, 232, 0), (232, .iadd, 233, 0), (233, .iaload, 234, 0), (234, .invokevirtual 84, 237, 0), (237, .istore 6, 239, 0), (239, .aload_n 2, 240, 0), (240, .invokevirtual 85, 243, 0), (243, .iload 5, 245, 0), (245, .if_icmp .eq 5, 248, 250), (248, .iconst 0, 249, 0), (249, .ireturn, 250, 0), (250, .iload 5, 252, 0), (252, .ifCond .ne 15, 255, 267), (255, .aload_n 3, 256, 0), (256, .iconst 0, 257, 0)]
def tb_La_law_5 : List (Nat × Instr × Nat × Nat) := [(257, .laload, 258, 0), (258, .iload 6, 260, 0), (260, .i2l, 261, 0), (261, .lcmp, 262, 0), (262, .ifCond .eq 5, 265, 267), (265, .iconst 0, 266, 0), (266, .ireturn, 267, 0), (267, .goto 1255, 270, 1522), (270, .aload_n 1, 271, 0), (271, .aload_n 0, 272, 0), (272, .iload 4, 274, 0), (274, .iconst 1, 275, 0), (275, .iadd, 276, 0), (276, .iaload, 277, 0), (277, .aload_n 0, 278, 0), (278, .iload 4, 280, 0), (280, .iconst 2, 281, 0), (281, .iadd, 282, 0), (282, .iaload, 283, 0), (283, .i2l, 284, 0), (284, .bipush 32, 286, 0), (286, .lshl, 287, 0), (287, .aload_n 0, 288, 0), (288, .iload 4, 290, 0), (290, .iconst 3, 291, 0), (291, .iadd, 292, 0), (292, .iaload, 293, 0), (293, .i2l, 294, 0), (294, .ldc2_w 77, 297, 0), (297, .land, 298, 0)]
def tb_La_law_6 : List (Nat × Instr × Nat × Nat) := [(298, .lor, 299, 0), (299, .aload_n 0, 300, 0), (300, .iload 4, 302, 0), (302, .iconst 4, 303, 0), (303, .iadd, 304, 0), (304, .iaload, 305, 0), (305, .i2l, 306, 0), (306, .bipush 32, 308, 0), (308, .lshl, 309, 0), (309, .aload_n 0, 310, 0), (310, .iload 4, 312, 0), (312, .iconst 5, 313, 0), (313, .iadd, 314, 0), (314, .iaload, 315, 0), (315, .i2l, 316, 0), (316, .ldc2_w 77, 319, 0), (319, .land, 320, 0), (320, .lor, 321, 0), (321, .aload_n 3, 322, 0), (322, .invokestatic 88, 325, 0), (325, .istore 5, 327, 0), (327, .aload_n 2, 328, 0), (328, .aload_n 0, 329, 0), (329, .iload 4, 331, 0), (331, .iconst 1, 332, 0), (332, .iadd, 333, 0), (333, .iaload, 334, 0), (334, .aload_n 0, 335, 0), (335, .iload 4, 337, 0), (337, .iconst 2, 338, 0)]
def tb_La_law_7 : List (Nat × Instr × Nat × Nat) := [(338, .iadd, 339, 0), (339, .iaload, 340, 0), (340, .i2l, 341, 0), (341, .bipush 32, 343, 0), (343, .lshl, 344, 0), (344, .aload_n 0, 345, 0), (345, .iload 4, 347, 0), (347, .iconst 3, 348, 0), (348, .iadd, 349, 0), (349, .iaload, 350, 0), (350, .i2l, 351, 0), (351, .ldc2_w 77, 354, 0), (354, .land, 355, 0), (355, .lor, 356, 0), (356, .aload_n 0, 357, 0), (357, .iload 4, 359, 0), (359, .iconst 4, 360, 0), (360, .iadd, 361, 0), (361, .iaload, 362, 0), (362, .i2l, 363, 0), (363, .bipush 32, 365, 0), (365, .lshl, 366, 0), (366, .aload_n 0, 367, 0), (367, .iload 4, 369, 0), (369, .iconst 5, 370, 0), (370, .iadd, 371, 0), (371, .iaload, 372, 0), (372, .i2l, 373, 0), (373, .ldc2_w 77, 376, 0), (376, .land, 377, 0)]
def tb_La_law_8 : List (Nat × Instr × Nat × Nat) := [(377, .lor, 378, 0), (378, .invokevirtual 91, 381, 0), (381, .istore 6, 383, 0), (383, .aload_n 2, 384, 0), (384, .invokevirtual 85, 387, 0), (387, .iload 5, 389, 0), (389, .if_icmp .eq 5, 392, 394), (392, .iconst 0, 393, 0), (393, .ireturn, 394, 0), (394, .iload 5, 396, 0), (396, .ifCond .ne 22, 399, 418), (399, .aload_n 3, 400, 0), (400, .iconst 0, 401, 0), (401, .laload, 402, 0), (402, .iload 6, 404, 0), (404, .ifCond .eq 7, 407, 411), (407, .lconst 1, 408, 0), (408, .goto 4, 411, 412), (411, .lconst 0, 412, 0), (412, .lcmp, 413, 0), (413, .ifCond .eq 5, 416, 418), (416, .iconst 0, 417, 0), (417, .ireturn, 418, 0), (418, .goto 1104, 421, 1522), (421, .aload_n 1, 422, 0), (422, .aload_n 0, 423, 0), (423, .iload 4, 425, 0), (425, .iconst 1, 426, 0), (426, .iadd, 427, 0), (427, .iaload, 428, 0)]
def tb_La_law_9 : List (Nat × Instr × Nat × Nat) := [(428, .aload_n 0, 429, 0), (429, .iload 4, 431, 0), (431, .iconst 2, 432, 0), (432, .iadd, 433, 0), (433, .iaload, 434, 0), (434, .aload_n 3, 435, 0), (435, .invokestatic 92, 438, 0), (438, .istore 5, 440, 0), (440, .aload_n 2, 441, 0), (441, .aload_n 0, 442, 0), (442, .iload 4, 444, 0), (444, .iconst 1, 445, 0), (445, .iadd, 446, 0), (446, .iaload, 447, 0), (447, .aload_n 0, 448, 0), (448, .iload 4, 450, 0), (450, .iconst 2, 451, 0), (451, .iadd, 452, 0), (452, .iaload, 453, 0), (453, .invokevirtual 95, 456, 0), (456, .istore 6, 458, 0), (458, .aload_n 2, 459, 0), (459, .invokevirtual 85, 462, 0), (462, .iload 5, 464, 0), (464, .if_icmp .eq 5, 467, 469), (467, .iconst 0, 468, 0), (468, .ireturn, 469, 0), (469, .iload 5, 471, 0), (471, .ifCond .ne 15, 474, 486), (474, .aload_n 3, 475, 0)]
def tb_La_law_10 : List (Nat × Instr × Nat × Nat) := [(475, .iconst 0, 476, 0), (476, .laload, 477, 0), (477, .iload 6, 479, 0), (479, .i2l, 480, 0), (480, .lcmp, 481, 0), (481, .ifCond .eq 5, 484, 486), (484, .iconst 0, 485, 0), (485, .ireturn, 486, 0), (486, .goto 1036, 489, 1522), (489, .aload_n 1, 490, 0), (490, .aload_n 0, 491, 0), (491, .iload 4, 493, 0), (493, .iconst 1, 494, 0), (494, .iadd, 495, 0), (495, .iaload, 496, 0), (496, .aload_n 0, 497, 0), (497, .iload 4, 499, 0), (499, .iconst 2, 500, 0), (500, .iadd, 501, 0), (501, .iaload, 502, 0), (502, .aload_n 3, 503, 0), (503, .invokestatic 96, 506, 0), (506, .istore 5, 508, 0), (508, .aload_n 2, 509, 0), (509, .aload_n 0, 510, 0), (510, .iload 4, 512, 0), (512, .iconst 1, 513, 0), (513, .iadd, 514, 0), (514, .iaload, 515, 0), (515, .aload_n 0, 516, 0)]
def tb_La_law_11 : List (Nat × Instr × Nat × Nat) := [(516, .iload 4, 518, 0), (518, .iconst 2, 519, 0), (519, .iadd, 520, 0), (520, .iaload, 521, 0), (521, .invokevirtual 98, 524, 0), (524, .istore 6, 526, 0), (526, .aload_n 2, 527, 0), (527, .invokevirtual 85, 530, 0), (530, .iload 5, 532, 0), (532, .if_icmp .eq 5, 535, 537), (535, .iconst 0, 536, 0), (536, .ireturn, 537, 0), (537, .iload 5, 539, 0), (539, .ifCond .ne 15, 542, 554), (542, .aload_n 3, 543, 0), (543, .iconst 0, 544, 0), (544, .laload, 545, 0), (545, .iload 6, 547, 0), (547, .i2l, 548, 0), (548, .lcmp, 549, 0), (549, .ifCond .eq 5, 552, 554), (552, .iconst 0, 553, 0), (553, .ireturn, 554, 0), (554, .goto 968, 557, 1522), (557, .aload_n 1, 558, 0), (558, .aload_n 0, 559, 0), (559, .iload 4, 561, 0), (561, .iconst 1, 562, 0), (562, .iadd, 563, 0), (563, .iaload, 564, 0)]
def tb_La_law_12 : List (Nat × Instr × Nat × Nat) := [(564, .aload_n 3, 565, 0), (565, .invokestatic 99, 568, 0), (568, .istore 5, 570, 0), (570, .aload_n 2, 571, 0), (571, .aload_n 0, 572, 0), (572, .iload 4, 574, 0), (574, .iconst 1, 575, 0), (575, .iadd, 576, 0), (576, .iaload, 577, 0), (577, .invokevirtual 102, 580, 0), (580, .istore 6, 582, 0), (582, .aload_n 2, 583, 0), (583, .invokevirtual 85, 586, 0), (586, .iload 5, 588, 0), (588, .if_icmp .eq 5, 591, 593), (591, .iconst 0, 592, 0), (592, .ireturn, 593, 0), (593, .iload 5, 595, 0), (595, .ifCond .ne 15, 598, 610), (598, .aload_n 3, 599, 0), (599, .iconst 0, 600, 0), (600, .laload, 601, 0), (601, .iload 6, 603, 0), (603, .i2l, 604, 0), (604, .lcmp, 605, 0), (605, .ifCond .eq 5, 608, 610), (608, .iconst 0, 609, 0), (609, .ireturn, 610, 0), (610, .goto 912, 613, 1522), (613, .aload_n 1, 614, 0)]
def tb_La_law_13 : List (Nat × Instr × Nat × Nat) := [(614, .aload_n 0, 615, 0), (615, .iload 4, 617, 0), (617, .iconst 1, 618, 0), (618, .iadd, 619, 0), (619, .iaload, 620, 0), (620, .aload_n 0, 621, 0), (621, .iload 4, 623, 0), (623, .iconst 2, 624, 0), (624, .iadd, 625, 0), (625, .iaload, 626, 0), (626, .aload_n 0, 627, 0), (627, .iload 4, 629, 0), (629, .iconst 3, 630, 0), (630, .iadd, 631, 0), (631, .iaload, 632, 0), (632, .i2l, 633, 0), (633, .bipush 32, 635, 0), (635, .lshl, 636, 0), (636, .aload_n 0, 637, 0), (637, .iload 4, 639, 0), (639, .iconst 4, 640, 0), (640, .iadd, 641, 0), (641, .iaload, 642, 0), (642, .i2l, 643, 0), (643, .ldc2_w 77, 646, 0), (646, .land, 647, 0), (647, .lor, 648, 0), (648, .aload_n 3, 649, 0), (649, .invokestatic 103, 652, 0), (652, .istore 5, 654, 0)]
def tb_La_law_14 : List (Nat × Instr × Nat × Nat) := [(654, .aload_n 2, 655, 0), (655, .aload_n 0, 656, 0), (656, .iload 4, 658, 0), (658, .iconst 1, 659, 0), (659, .iadd, 660, 0), (660, .iaload, 661, 0), (661, .aload_n 0, 662, 0), (662, .iload 4, 664, 0), (664, .iconst 2, 665, 0), (665, .iadd, 666, 0), (666, .iaload, 667, 0), (667, .aload_n 0, 668, 0), (668, .iload 4, 670, 0), (670, .iconst 3, 671, 0), (671, .iadd, 672, 0), (672, .iaload, 673, 0), (673, .i2l, 674, 0), (674, .bipush 32, 676, 0), (676, .lshl, 677, 0), (677, .aload_n 0, 678, 0), (678, .iload 4, 680, 0), (680, .iconst 4, 681, 0), (681, .iadd, 682, 0), (682, .iaload, 683, 0), (683, .i2l, 684, 0), (684, .ldc2_w 77, 687, 0), (687, .land, 688, 0), (688, .lor, 689, 0), (689, .invokevirtual 106, 692, 0), (692, .lstore 6, 694, 0)]
def tb_La_law_15 : List (Nat × Instr × Nat × Nat) := [(694, .aload_n 2, 695, 0), (695, .invokevirtual 85, 698, 0), (698, .iload 5, 700, 0), (700, .if_icmp .eq 5, 703, 705), (703, .iconst 0, 704, 0), (704, .ireturn, 705, 0), (705, .iload 5, 707, 0), (707, .ifCond .ne 14, 710, 721), (710, .aload_n 3, 711, 0), (711, .iconst 0, 712, 0), (712, .laload, 713, 0), (713, .lload 6, 715, 0), (715, .lcmp, 716, 0), (716, .ifCond .eq 5, 719, 721), (719, .iconst 0, 720, 0), (720, .ireturn, 721, 0), (721, .goto 801, 724, 1522), (724, .aload_n 1, 725, 0), (725, .aload_n 0, 726, 0), (726, .iload 4, 728, 0), (728, .iconst 1, 729, 0), (729, .iadd, 730, 0), (730, .iaload, 731, 0), (731, .i2l, 732, 0), (732, .bipush 32, 734, 0), (734, .lshl, 735, 0), (735, .aload_n 0, 736, 0), (736, .iload 4, 738, 0), (738, .iconst 2, 739, 0), (739, .iadd, 740, 0)]
def tb_La_law_16 : List (Nat × Instr × Nat × Nat) := [(740, .iaload, 741, 0), (741, .i2l, 742, 0), (742, .ldc2_w 77, 745, 0), (745, .land, 746, 0), (746, .lor, 747, 0), (747, .aload_n 0, 748, 0), (748, .iload 4, 750, 0), (750, .iconst 3, 751, 0), (751, .iadd, 752, 0), (752, .iaload, 753, 0), (753, .i2l, 754, 0), (754, .bipush 32, 756, 0), (756, .lshl, 757, 0), (757, .aload_n 0, 758, 0), (758, .iload 4, 760, 0), (760, .iconst 4, 761, 0), (761, .iadd, 762, 0), (762, .iaload, 763, 0), (763, .i2l, 764, 0), (764, .ldc2_w 77, 767, 0), (767, .land, 768, 0), (768, .lor, 769, 0), (769, .aload_n 0, 770, 0), (770, .iload 4, 772, 0), (772, .iconst 5, 773, 0), (773, .iadd, 774, 0), (774, .iaload, 775, 0), (775, .aload_n 3, 776, 0), (776, .invokestatic 107, 779, 0), (779, .istore 5, 781, 0)]
def tb_La_law_17 : List (Nat × Instr × Nat × Nat) := [(781, .aload_n 2, 782, 0), (782, .aload_n 0, 783, 0), (783, .iload 4, 785, 0), (785, .iconst 1, 786, 0), (786, .iadd, 787, 0), (787, .iaload, 788, 0), (788, .i2l, 789, 0), (789, .bipush 32, 791, 0), (791, .lshl, 792, 0), (792, .aload_n 0, 793, 0), (793, .iload 4, 795, 0), (795, .iconst 2, 796, 0), (796, .iadd, 797, 0), (797, .iaload, 798, 0), (798, .i2l, 799, 0), (799, .ldc2_w 77, 802, 0), (802, .land, 803, 0), (803, .lor, 804, 0), (804, .aload_n 0, 805, 0), (805, .iload 4, 807, 0), (807, .iconst 3, 808, 0), (808, .iadd, 809, 0), (809, .iaload, 810, 0), (810, .i2l, 811, 0), (811, .bipush 32, 813, 0), (813, .lshl, 814, 0), (814, .aload_n 0, 815, 0), (815, .iload 4, 817, 0), (817, .iconst 4, 818, 0), (818, .iadd, 819, 0)]
def tb_La_law_18 : List (Nat × Instr × Nat × Nat) := [(819, .iaload, 820, 0), (820, .i2l, 821, 0), (821, .ldc2_w 77, 824, 0), (824, .land, 825, 0), (825, .lor, 826, 0), (826, .aload_n 0, 827, 0), (827, .iload 4, 829, 0), (829, .iconst 5, 830, 0), (830, .iadd, 831, 0), (831, .iaload, 832, 0), (832, .invokevirtual 110, 835, 0), (835, .lstore 6, 837, 0), (837, .aload_n 2, 838, 0), (838, .invokevirtual 85, 841, 0), (841, .iload 5, 843, 0), (843, .if_icmp .eq 5, 846, 848), (846, .iconst 0, 847, 0), (847, .ireturn, 848, 0), (848, .iload 5, 850, 0), (850, .ifCond .ne 14, 853, 864), (853, .aload_n 3, 854, 0), (854, .iconst 0, 855, 0), (855, .laload, 856, 0), (856, .lload 6, 858, 0), (858, .lcmp, 859, 0), (859, .ifCond .eq 5, 862, 864), (862, .iconst 0, 863, 0), (863, .ireturn, 864, 0), (864, .goto 658, 867, 1522), (867, .aload_n 1, 868, 0)]
def tb_La_law_19 : List (Nat × Instr × Nat × Nat) := [(868, .aload_n 0, 869, 0), (869, .iload 4, 871, 0), (871, .iconst 1, 872, 0), (872, .iadd, 873, 0), (873, .iaload, 874, 0), (874, .aload_n 0, 875, 0), (875, .iload 4, 877, 0), (877, .iconst 2, 878, 0), (878, .iadd, 879, 0), (879, .iaload, 880, 0), (880, .aload_n 0, 881, 0), (881, .iload 4, 883, 0), (883, .iconst 3, 884, 0), (884, .iadd, 885, 0), (885, .iaload, 886, 0), (886, .aload_n 3, 887, 0), (887, .invokestatic 111, 890, 0), (890, .istore 5, 892, 0), (892, .aload_n 2, 893, 0), (893, .aload_n 0, 894, 0), (894, .iload 4, 896, 0), (896, .iconst 1, 897, 0), (897, .iadd, 898, 0), (898, .iaload, 899, 0), (899, .aload_n 0, 900, 0), (900, .iload 4, 902, 0), (902, .iconst 2, 903, 0), (903, .iadd, 904, 0), (904, .iaload, 905, 0), (905, .aload_n 0, 906, 0)]
def tb_La_law_20 : List (Nat × Instr × Nat × Nat) := [(906, .iload 4, 908, 0), (908, .iconst 3, 909, 0), (909, .iadd, 910, 0), (910, .iaload, 911, 0), (911, .invokevirtual 114, 914, 0), (914, .lstore 6, 916, 0), (916, .aload_n 2, 917, 0), (917, .invokevirtual 85, 920, 0), (920, .iload 5, 922, 0), (922, .if_icmp .eq 5, 925, 927), (925, .iconst 0, 926, 0), (926, .ireturn, 927, 0), (927, .iload 5, 929, 0), (929, .ifCond .ne 14, 932, 943), (932, .aload_n 3, 933, 0), (933, .iconst 0, 934, 0), (934, .laload, 935, 0), (935, .lload 6, 937, 0), (937, .lcmp, 938, 0), (938, .ifCond .eq 5, 941, 943), (941, .iconst 0, 942, 0), (942, .ireturn, 943, 0), (943, .goto 579, 946, 1522), (946, .aload_n 1, 947, 0), (947, .aload_n 0, 948, 0), (948, .iload 4, 950, 0), (950, .iconst 1, 951, 0), (951, .iadd, 952, 0), (952, .iaload, 953, 0), (953, .aload_n 0, 954, 0)]
def tb_La_law_21 : List (Nat × Instr × Nat × Nat) := [(954, .iload 4, 956, 0), (956, .iconst 2, 957, 0), (957, .iadd, 958, 0), (958, .iaload, 959, 0), (959, .i2l, 960, 0), (960, .bipush 32, 962, 0), (962, .lshl, 963, 0), (963, .aload_n 0, 964, 0), (964, .iload 4, 966, 0), (966, .iconst 3, 967, 0), (967, .iadd, 968, 0), (968, .iaload, 969, 0), (969, .i2l, 970, 0), (970, .ldc2_w 77, 973, 0), (973, .land, 974, 0), (974, .lor, 975, 0), (975, .aload_n 3, 976, 0), (976, .invokestatic 115, 979, 0), (979, .istore 5, 981, 0), (981, .aload_n 2, 982, 0), (982, .aload_n 0, 983, 0), (983, .iload 4, 985, 0), (985, .iconst 1, 986, 0), (986, .iadd, 987, 0), (987, .iaload, 988, 0), (988, .aload_n 0, 989, 0), (989, .iload 4, 991, 0), (991, .iconst 2, 992, 0), (992, .iadd, 993, 0), (993, .iaload, 994, 0)]
def tb_La_law_22 : List (Nat × Instr × Nat × Nat) := [(994, .i2l, 995, 0), (995, .bipush 32, 997, 0), (997, .lshl, 998, 0), (998, .aload_n 0, 999, 0), (999, .iload 4, 1001, 0), (1001, .iconst 3, 1002, 0), (1002, .iadd, 1003, 0), (1003, .iaload, 1004, 0), (1004, .i2l, 1005, 0), (1005, .ldc2_w 77, 1008, 0), (1008, .land, 1009, 0), (1009, .lor, 1010, 0), (1010, .invokevirtual 118, 1013, 0), (1013, .istore 6, 1015, 0), (1015, .aload_n 2, 1016, 0), (1016, .invokevirtual 85, 1019, 0), (1019, .iload 5, 1021, 0), (1021, .if_icmp .eq 5, 1024, 1026), (1024, .iconst 0, 1025, 0), (1025, .ireturn, 1026, 0), (1026, .iload 5, 1028, 0), (1028, .ifCond .ne 15, 1031, 1043), (1031, .aload_n 3, 1032, 0), (1032, .iconst 0, 1033, 0), (1033, .laload, 1034, 0), (1034, .iload 6, 1036, 0), (1036, .i2l, 1037, 0), (1037, .lcmp, 1038, 0), (1038, .ifCond .eq 5, 1041, 1043), (1041, .iconst 0, 1042, 0)]
def tb_La_law_23 : List (Nat × Instr × Nat × Nat) := [(1042, .ireturn, 1043, 0), (1043, .goto 479, 1046, 1522), (1046, .aload_n 1, 1047, 0), (1047, .aload_n 0, 1048, 0), (1048, .iload 4, 1050, 0), (1050, .iconst 1, 1051, 0), (1051, .iadd, 1052, 0), (1052, .iaload, 1053, 0), (1053, .aload_n 0, 1054, 0), (1054, .iload 4, 1056, 0), (1056, .iconst 2, 1057, 0), (1057, .iadd, 1058, 0), (1058, .iaload, 1059, 0), (1059, .aload_n 0, 1060, 0), (1060, .iload 4, 1062, 0), (1062, .iconst 3, 1063, 0), (1063, .iadd, 1064, 0), (1064, .iaload, 1065, 0), (1065, .i2l, 1066, 0), (1066, .bipush 32, 1068, 0), (1068, .lshl, 1069, 0), (1069, .aload_n 0, 1070, 0), (1070, .iload 4, 1072, 0), (1072, .iconst 4, 1073, 0), (1073, .iadd, 1074, 0), (1074, .iaload, 1075, 0), (1075, .i2l, 1076, 0), (1076, .ldc2_w 77, 1079, 0), (1079, .land, 1080, 0), (1080, .lor, 1081, 0)]
def tb_La_law_24 : List (Nat × Instr × Nat × Nat) := [(1081, .aload_n 0, 1082, 0), (1082, .iload 4, 1084, 0), (1084, .iconst 5, 1085, 0), (1085, .iadd, 1086, 0), (1086, .iaload, 1087, 0), (1087, .i2l, 1088, 0), (1088, .bipush 32, 1090, 0), (1090, .lshl, 1091, 0), (1091, .aload_n 0, 1092, 0), (1092, .iload 4, 1094, 0), (1094, .bipush 6, 1096, 0), (1096, .iadd, 1097, 0), (1097, .iaload, 1098, 0), (1098, .i2l, 1099, 0), (1099, .ldc2_w 77, 1102, 0), (1102, .land, 1103, 0), (1103, .lor, 1104, 0), (1104, .aload_n 3, 1105, 0), (1105, .invokestatic 119, 1108, 0), (1108, .istore 5, 1110, 0), (1110, .aload_n 2, 1111, 0), (1111, .aload_n 0, 1112, 0), (1112, .iload 4, 1114, 0), (1114, .iconst 1, 1115, 0), (1115, .iadd, 1116, 0), (1116, .iaload, 1117, 0), (1117, .aload_n 0, 1118, 0), (1118, .iload 4, 1120, 0), (1120, .iconst 2, 1121, 0), (1121, .iadd, 1122, 0)]
def tb_La_law_25 : List (Nat × Instr × Nat × Nat) := [(1122, .iaload, 1123, 0), (1123, .aload_n 0, 1124, 0), (1124, .iload 4, 1126, 0), (1126, .iconst 3, 1127, 0), (1127, .iadd, 1128, 0), (1128, .iaload, 1129, 0), (1129, .i2l, 1130, 0), (1130, .bipush 32, 1132, 0), (1132, .lshl, 1133, 0), (1133, .aload_n 0, 1134, 0), (1134, .iload 4, 1136, 0), (1136, .iconst 4, 1137, 0), (1137, .iadd, 1138, 0), (1138, .iaload, 1139, 0), (1139, .i2l, 1140, 0), (1140, .ldc2_w 77, 1143, 0), (1143, .land, 1144, 0), (1144, .lor, 1145, 0), (1145, .aload_n 0, 1146, 0), (1146, .iload 4, 1148, 0), (1148, .iconst 5, 1149, 0), (1149, .iadd, 1150, 0), (1150, .iaload, 1151, 0), (1151, .i2l, 1152, 0), (1152, .bipush 32, 1154, 0), (1154, .lshl, 1155, 0), (1155, .aload_n 0, 1156, 0), (1156, .iload 4, 1158, 0), (1158, .bipush 6, 1160, 0), (1160, .iadd, 1161, 0)]
def tb_La_law_26 : List (Nat × Instr × Nat × Nat) := [(1161, .iaload, 1162, 0), (1162, .i2l, 1163, 0), (1163, .ldc2_w 77, 1166, 0), (1166, .land, 1167, 0), (1167, .lor, 1168, 0), (1168, .invokevirtual 122, 1171, 0), (1171, .istore 6, 1173, 0), (1173, .aload_n 2, 1174, 0), (1174, .invokevirtual 85, 1177, 0), (1177, .iload 5, 1179, 0), (1179, .if_icmp .eq 5, 1182, 1184), (1182, .iconst 0, 1183, 0), (1183, .ireturn, 1184, 0), (1184, .iload 5, 1186, 0), (1186, .ifCond .ne 22, 1189, 1208), (1189, .aload_n 3, 1190, 0), (1190, .iconst 0, 1191, 0), (1191, .laload, 1192, 0), (1192, .iload 6, 1194, 0), (1194, .ifCond .eq 7, 1197, 1201), (1197, .lconst 1, 1198, 0), (1198, .goto 4, 1201, 1202), (1201, .lconst 0, 1202, 0), (1202, .lcmp, 1203, 0), (1203, .ifCond .eq 5, 1206, 1208), (1206, .iconst 0, 1207, 0), (1207, .ireturn, 1208, 0), (1208, .goto 314, 1211, 1522), (1211, .aload_n 1, 1212, 0), (1212, .aload_n 0, 1213, 0)]
def tb_La_law_27 : List (Nat × Instr × Nat × Nat) := [(1213, .iload 4, 1215, 0), (1215, .iconst 1, 1216, 0), (1216, .iadd, 1217, 0), (1217, .iaload, 1218, 0), (1218, .i2l, 1219, 0), (1219, .bipush 32, 1221, 0), (1221, .lshl, 1222, 0), (1222, .aload_n 0, 1223, 0), (1223, .iload 4, 1225, 0), (1225, .iconst 2, 1226, 0), (1226, .iadd, 1227, 0), (1227, .iaload, 1228, 0), (1228, .i2l, 1229, 0), (1229, .ldc2_w 77, 1232, 0), (1232, .land, 1233, 0), (1233, .lor, 1234, 0), (1234, .aload_n 3, 1235, 0), (1235, .invokestatic 123, 1238, 0), (1238, .istore 5, 1240, 0), (1240, .aload_n 2, 1241, 0), (1241, .aload_n 0, 1242, 0), (1242, .iload 4, 1244, 0), (1244, .iconst 1, 1245, 0), (1245, .iadd, 1246, 0), (1246, .iaload, 1247, 0), (1247, .i2l, 1248, 0), (1248, .bipush 32, 1250, 0), (1250, .lshl, 1251, 0), (1251, .aload_n 0, 1252, 0), (1252, .iload 4, 1254, 0)]
def tb_La_law_28 : List (Nat × Instr × Nat × Nat) := [(1254, .iconst 2, 1255, 0), (1255, .iadd, 1256, 0), (1256, .iaload, 1257, 0), (1257, .i2l, 1258, 0), (1258, .ldc2_w 77, 1261, 0), (1261, .land, 1262, 0), (1262, .lor, 1263, 0), (1263, .invokevirtual 126, 1266, 0), (1266, .istore 6, 1268, 0), (1268, .aload_n 2, 1269, 0), (1269, .invokevirtual 85, 1272, 0), (1272, .iload 5, 1274, 0), (1274, .if_icmp .eq 5, 1277, 1279), (1277, .iconst 0, 1278, 0), (1278, .ireturn, 1279, 0), (1279, .iload 5, 1281, 0), (1281, .ifCond .ne 15, 1284, 1296), (1284, .aload_n 3, 1285, 0), (1285, .iconst 0, 1286, 0), (1286, .laload, 1287, 0), (1287, .iload 6, 1289, 0), (1289, .i2l, 1290, 0), (1290, .lcmp, 1291, 0), (1291, .ifCond .eq 5, 1294, 1296), (1294, .iconst 0, 1295, 0), (1295, .ireturn, 1296, 0), (1296, .goto 226, 1299, 1522), (1299, .aload_n 1, 1300, 0), (1300, .aload_n 0, 1301, 0), (1301, .iload 4, 1303, 0)]
def tb_La_law_29 : List (Nat × Instr × Nat × Nat) := [(1303, .iconst 1, 1304, 0), (1304, .iadd, 1305, 0), (1305, .iaload, 1306, 0), (1306, .aload_n 0, 1307, 0), (1307, .iload 4, 1309, 0), (1309, .iconst 2, 1310, 0), (1310, .iadd, 1311, 0), (1311, .iaload, 1312, 0), (1312, .i2l, 1313, 0), (1313, .bipush 32, 1315, 0), (1315, .lshl, 1316, 0), (1316, .aload_n 0, 1317, 0), (1317, .iload 4, 1319, 0), (1319, .iconst 3, 1320, 0), (1320, .iadd, 1321, 0), (1321, .iaload, 1322, 0), (1322, .i2l, 1323, 0), (1323, .ldc2_w 77, 1326, 0), (1326, .land, 1327, 0), (1327, .lor, 1328, 0), (1328, .aload_n 0, 1329, 0), (1329, .iload 4, 1331, 0), (1331, .iconst 4, 1332, 0), (1332, .iadd, 1333, 0), (1333, .iaload, 1334, 0), (1334, .i2l, 1335, 0), (1335, .bipush 32, 1337, 0), (1337, .lshl, 1338, 0), (1338, .aload_n 0, 1339, 0), (1339, .iload 4, 1341, 0)]
def tb_La_law_30 : List (Nat × Instr × Nat × Nat) := [(1341, .iconst 5, 1342, 0), (1342, .iadd, 1343, 0), (1343, .iaload, 1344, 0), (1344, .i2l, 1345, 0), (1345, .ldc2_w 77, 1348, 0), (1348, .land, 1349, 0), (1349, .lor, 1350, 0), (1350, .aload_n 3, 1351, 0), (1351, .invokestatic 127, 1354, 0), (1354, .istore 5, 1356, 0), (1356, .aload_n 2, 1357, 0), (1357, .aload_n 0, 1358, 0), (1358, .iload 4, 1360, 0), (1360, .iconst 1, 1361, 0), (1361, .iadd, 1362, 0), (1362, .iaload, 1363, 0), (1363, .aload_n 0, 1364, 0), (1364, .iload 4, 1366, 0), (1366, .iconst 2, 1367, 0), (1367, .iadd, 1368, 0), (1368, .iaload, 1369, 0), (1369, .i2l, 1370, 0), (1370, .bipush 32, 1372, 0), (1372, .lshl, 1373, 0), (1373, .aload_n 0, 1374, 0), (1374, .iload 4, 1376, 0), (1376, .iconst 3, 1377, 0), (1377, .iadd, 1378, 0), (1378, .iaload, 1379, 0), (1379, .i2l, 1380, 0)]
def tb_La_law_31 : List (Nat × Instr × Nat × Nat) := [(1380, .ldc2_w 77, 1383, 0), (1383, .land, 1384, 0), (1384, .lor, 1385, 0), (1385, .aload_n 0, 1386, 0), (1386, .iload 4, 1388, 0), (1388, .iconst 4, 1389, 0), (1389, .iadd, 1390, 0), (1390, .iaload, 1391, 0), (1391, .i2l, 1392, 0), (1392, .bipush 32, 1394, 0), (1394, .lshl, 1395, 0), (1395, .aload_n 0, 1396, 0), (1396, .iload 4, 1398, 0), (1398, .iconst 5, 1399, 0), (1399, .iadd, 1400, 0), (1400, .iaload, 1401, 0), (1401, .i2l, 1402, 0), (1402, .ldc2_w 77, 1405, 0), (1405, .land, 1406, 0), (1406, .lor, 1407, 0), (1407, .invokevirtual 129, 1410, 0), (1410, .istore 6, 1412, 0), (1412, .aload_n 2, 1413, 0), (1413, .invokevirtual 85, 1416, 0), (1416, .iload 5, 1418, 0), (1418, .if_icmp .eq 5, 1421, 1423), (1421, .iconst 0, 1422, 0), (1422, .ireturn, 1423, 0), (1423, .iload 5, 1425, 0), (1425, .ifCond .ne 15, 1428, 1440)]
def tb_La_law_32 : List (Nat × Instr × Nat × Nat) := [(1428, .aload_n 3, 1429, 0), (1429, .iconst 0, 1430, 0), (1430, .laload, 1431, 0), (1431, .iload 6, 1433, 0), (1433, .i2l, 1434, 0), (1434, .lcmp, 1435, 0), (1435, .ifCond .eq 5, 1438, 1440), (1438, .iconst 0, 1439, 0), (1439, .ireturn, 1440, 0), (1440, .goto 82, 1443, 1522), (1443, .aload_n 1, 1444, 0), (1444, .aload_n 0, 1445, 0), (1445, .iload 4, 1447, 0), (1447, .iconst 1, 1448, 0), (1448, .iadd, 1449, 0), (1449, .iaload, 1450, 0), (1450, .aload_n 0, 1451, 0), (1451, .iload 4, 1453, 0), (1453, .iconst 2, 1454, 0), (1454, .iadd, 1455, 0), (1455, .iaload, 1456, 0), (1456, .aload_n 3, 1457, 0), (1457, .invokestatic 130, 1460, 0), (1460, .istore 5, 1462, 0), (1462, .aload_n 2, 1463, 0), (1463, .aload_n 0, 1464, 0), (1464, .iload 4, 1466, 0), (1466, .iconst 1, 1467, 0), (1467, .iadd, 1468, 0), (1468, .iaload, 1469, 0)]
def tb_La_law_33 : List (Nat × Instr × Nat × Nat) := [(1469, .aload_n 0, 1470, 0), (1470, .iload 4, 1472, 0), (1472, .iconst 2, 1473, 0), (1473, .iadd, 1474, 0), (1474, .iaload, 1475, 0), (1475, .invokevirtual 132, 1478, 0), (1478, .istore 6, 1480, 0), (1480, .aload_n 2, 1481, 0), (1481, .invokevirtual 85, 1484, 0), (1484, .iload 5, 1486, 0), (1486, .if_icmp .eq 5, 1489, 1491), (1489, .iconst 0, 1490, 0), (1490, .ireturn, 1491, 0), (1491, .iload 5, 1493, 0), (1493, .ifCond .ne 15, 1496, 1508), (1496, .aload_n 3, 1497, 0), (1497, .iconst 0, 1498, 0), (1498, .laload, 1499, 0), (1499, .iload 6, 1501, 0), (1501, .i2l, 1502, 0), (1502, .lcmp, 1503, 0), (1503, .ifCond .eq 5, 1506, 1508), (1506, .iconst 0, 1507, 0), (1507, .ireturn, 1508, 0), (1508, .goto 14, 1511, 1522), (1511, .aload_n 1, 1512, 0), (1512, .invokevirtual 133, 1515, 0), (1515, .aload_n 2, 1516, 0), (1516, .invokevirtual 136, 1519, 0), (1519, .goto 3, 1522, 1522)]
def tb_La_law_34 : List (Nat × Instr × Nat × Nat) := [(1522, .iinc 4 7, 1525, 0), (1525, .goto (-1502), 1528, 23), (1528, .iconst 1, 1529, 0), (1529, .ireturn, 1530, 0)]
def tb_La_law : List (Nat × Instr × Nat × Nat) := tb_La_law_1 ++ (tb_La_law_2 ++ (tb_La_law_3 ++ (tb_La_law_4 ++ (tb_La_law_5 ++ (tb_La_law_6 ++ (tb_La_law_7 ++ (tb_La_law_8 ++ (tb_La_law_9 ++ (tb_La_law_10 ++ (tb_La_law_11 ++ (tb_La_law_12 ++ (tb_La_law_13 ++ (tb_La_law_14 ++ (tb_La_law_15 ++ (tb_La_law_16 ++ (tb_La_law_17 ++ (tb_La_law_18 ++ (tb_La_law_19 ++ (tb_La_law_20 ++ (tb_La_law_21 ++ (tb_La_law_22 ++ (tb_La_law_23 ++ (tb_La_law_24 ++ (tb_La_law_25 ++ (tb_La_law_26 ++ (tb_La_law_27 ++ (tb_La_law_28 ++ (tb_La_law_29 ++ (tb_La_law_30 ++ (tb_La_law_31 ++ (tb_La_law_32 ++ (tb_La_law_33 ++ tb_La_law_34))))))))))))))))))))))))))))))))
def M_La_law : ax_M := (10, (some .boolean), tb_La_law, [], false)
def m_La_law : Nat := 125
def tb_Ar_fill : List (Nat × Instr × Nat × Nat) := [(0, .iconst 0, 1, 0), (1, .istore_n 2, 2, 0), (2, .aload_n 0, 3, 0), (3, .arraylength, 4, 0), (4, .istore_n 3, 5, 0), (5, .iload_n 2, 6, 0), (6, .iload_n 3, 7, 0), (7, .if_icmp .ge 13, 10, 20), (10, .aload_n 0, 11, 0), (11, .iload_n 2, 12, 0), (12, .iload_n 1, 13, 0), (13, .iastore, 14, 0), (14, .iinc 2 1, 17, 0), (17, .goto (-12), 20, 5), (20, .return_, 21, 0)]
def M_Ar_fill : ax_M := (11, none, tb_Ar_fill, [], false)
def m_Ar_fill : Nat := 126
def tb_Ma_maxI : List (Nat × Instr × Nat × Nat) := [(0, .iload_n 0, 1, 0), (1, .iload_n 1, 2, 0), (2, .if_icmp .lt 7, 5, 9), (5, .iload_n 0, 6, 0), (6, .goto 4, 9, 10), (9, .iload_n 1, 10, 0), (10, .ireturn, 11, 0)]
def M_Ma_maxI : ax_M := (12, (some .int), tb_Ma_maxI, [], false)
def m_Ma_maxI : Nat := 127
def tb_Ma_maxL : List (Nat × Instr × Nat × Nat) := [(0, .lload_n 0, 1, 0), (1, .lload_n 2, 2, 0), (2, .lcmp, 3, 0), (3, .ifCond .lt 7, 6, 10), (6, .lload_n 0, 7, 0), (7, .goto 4, 10, 11), (10, .lload_n 2, 11, 0), (11, .lreturn, 12, 0)]
def M_Ma_maxL : ax_M := (12, (some .long), tb_Ma_maxL, [], false)
def m_Ma_maxL : Nat := 128
def tb_Ma_absL : List (Nat × Instr × Nat × Nat) := [(0, .lload_n 0, 1, 0), (1, .lconst 0, 2, 0), (2, .lcmp, 3, 0), (3, .ifCond .ge 8, 6, 11), (6, .lload_n 0, 7, 0), (7, .lneg, 8, 0), (8, .goto 4, 11, 12), (11, .lload_n 0, 12, 0), (12, .lreturn, 13, 0)]
def M_Ma_absL : ax_M := (12, (some .long), tb_Ma_absL, [], false)
def m_Ma_absL : Nat := 129
def ax_pr : List ax_M := [M_ML_init, M_ML_unit, M_ML_maker, M_ML_thing, M_ML_at, M_ML_run, M_ML_remark, M_ML_least, M_ML_price, M_ML_share, M_ML_balance, M_ML_quote, M_ML_copper, M_ML_best, M_ML_order, M_ML_history, M_ML_clear, M_ML_keepOffer, M_ML_offerOf, M_ML_gradeOf, M_ML_checkQuantity, M_ML_isNoLayer, M_ML_commonDivisor, M_Bd_init, M_Bd_add, M_Bd_hasNo, M_Bd_move, M_Bd_excess, M_Bd_isMadeBy, M_Bd_part, M_Bd_forget, M_Ce_init, M_Ce_isNoCell, M_Ce_tell, M_Ce_aboveMean, M_Ce_units, M_Ce_forget, M_Gr_init, M_Gr_setLimit, M_Gr_addStep, M_Gr_setDays, M_Gr_excess, M_Gr_priceOf, M_Of_init, M_Of_add, M_Of_gradeAt, M_Of_leastFor, M_Or_init, M_Or_add, M_Or_hasNo, M_Or_part, M_Or_forget, M_Qu_init, M_Qu_add, M_Qu_latest, M_Qu_offerAt, M_Qu_forget, M_Re_init, M_Re_collect, M_Re_thingOf, M_Re_excessOf, M_Re_forget, M_Tx_init, M_Tx_add, M_Tx_forget, M_Tx_place, M_Tx_readNumber, M_Tx_readOffer, M_Tx_readGrade, M_Tx_readLimits, M_Tx_readSteps, M_Tx_readDays, M_Tx_readWhole, M_Tx_passes, M_Tx_next, M_Tx_isDigit, M_Mo_init, M_Mo_empty, M_Mo_thrown, M_Mo_clear, M_Mo_unit, M_Mo_now, M_Mo_expect, M_Mo_isDigit, M_Mo_whole, M_Mo_place, M_Mo_readClass, M_Mo_copyClasses, M_Mo_maker, M_Mo_isLayer, M_Mo_thing, M_Mo_isPlace, M_Mo_at, M_Mo_beyond, M_Mo_makes, M_Mo_leastOf, M_Mo_isMaker, M_Mo_isClass, M_Mo_run, M_Mo_remark, M_Mo_least, M_Mo_isQuantity, M_Mo_priceOf, M_Mo_price, M_Mo_share, M_Mo_best, M_Mo_isCell, M_Mo_copper, M_Mo_balance, M_Mo_quote, M_Mo_order, M_Mo_history, M_La_thing, M_La_at, M_La_run, M_La_remark, M_La_least, M_La_price, M_La_share, M_La_balance, M_La_quote, M_La_copper, M_La_best, M_La_order, M_La_history, M_La_law, M_Ar_fill, M_Ma_maxI, M_Ma_maxL, M_Ma_absL]
def ax_mm : List (MethodName × ByteArray × Nat × Nat × Nat) := [(⟨"MakingLimits", "<init>", "()V"⟩, prog_1_method_1_code, 1, 2, 43), (⟨"MakingLimits", "unit", "(I)Z"⟩, prog_1_method_2_code, 2, 1, 21), (⟨"MakingLimits", "maker", "()I"⟩, prog_1_method_3_code, 4, 5, 112), (⟨"MakingLimits", "thing", "(IJI)I"⟩, prog_1_method_4_code, 5, 6, 82), (⟨"MakingLimits", "at", "(IJJ)Z"⟩, prog_1_method_5_code, 6, 6, 82), (⟨"MakingLimits", "run", "(II)I"⟩, prog_1_method_6_code, 3, 8, 127), (⟨"MakingLimits", "remark", "(II)I"⟩, prog_1_method_7_code, 4, 6, 82), (⟨"MakingLimits", "least", "(I)I"⟩, prog_1_method_8_code, 2, 7, 104), (⟨"MakingLimits", "price", "(IIJ)J"⟩, prog_1_method_9_code, 6, 8, 127), (⟨"MakingLimits", "share", "(JJI)J"⟩, prog_1_method_10_code, 8, 6, 82), (⟨"MakingLimits", "balance", "(III)J"⟩, prog_1_method_11_code, 8, 6, 82), (⟨"MakingLimits", "quote", "(IJ)I"⟩, prog_1_method_12_code, 4, 7, 104), (⟨"MakingLimits", "copper", "(IIJJ)Z"⟩, prog_1_method_13_code, 7, 6, 82), (⟨"MakingLimits", "best", "(J)I"⟩, prog_1_method_14_code, 9, 7, 103), (⟨"MakingLimits", "order", "(IJJ)I"⟩, prog_1_method_15_code, 12, 7, 104), (⟨"MakingLimits", "history", "(II)I"⟩, prog_1_method_16_code, 3, 6, 82), (⟨"MakingLimits", "clear", "()V"⟩, prog_1_method_17_code, 2, 2, 43), (⟨"MakingLimits", "keepOffer", "(ILMakingLimits$Offer;)V"⟩, prog_1_method_18_code, 3, 1, 21), (⟨"MakingLimits", "offerOf", "(I)LMakingLimits$Offer;"⟩, prog_1_method_19_code, 3, 6, 82), (⟨"MakingLimits", "gradeOf", "(II)LMakingLimits$Grade;"⟩, prog_1_method_20_code, 4, 7, 104), (⟨"MakingLimits", "checkQuantity", "(J)V"⟩, prog_1_method_21_code, 2, 6, 82), (⟨"MakingLimits", "isNoLayer", "(I)Z"⟩, prog_1_method_22_code, 1, 0, 0), (⟨"MakingLimits", "commonDivisor", "(JJ)J"⟩, prog_1_method_23_code, 11, 1, 23), (⟨"MakingLimits$Board", "<init>", "()V"⟩, prog_2_method_1_code, 1, 1, 20), (⟨"MakingLimits$Board", "add", "(III)I"⟩, prog_2_method_2_code, 4, 0, 0), (⟨"MakingLimits$Board", "hasNo", "(I)Z"⟩, prog_2_method_3_code, 2, 0, 0), (⟨"MakingLimits$Board", "move", "(III)Z"⟩, prog_2_method_4_code, 5, 1, 21), (⟨"MakingLimits$Board", "excess", "(ILMakingLimits$Grade;)I"⟩, prog_2_method_5_code, 3, 1, 23), (⟨"MakingLimits$Board", "isMadeBy", "(LMakingLimits$Grade;)Z"⟩, prog_2_method_6_code, 3, 2, 45), (⟨"MakingLimits$Board", "part", "(II)I"⟩, prog_2_method_7_code, 3, 1, 21), (⟨"MakingLimits$Board", "forget", "()V"⟩, prog_2_method_8_code, 1, 0, 0), (⟨"MakingLimits$Cells", "<init>", "()V"⟩, prog_3_method_1_code, 1, 1, 23), (⟨"MakingLimits$Cells", "isNoCell", "(I)Z"⟩, prog_3_method_2_code, 1, 0, 0), (⟨"MakingLimits$Cells", "tell", "(IIII)Z"⟩, prog_3_method_3_code, 7, 1, 20), (⟨"MakingLimits$Cells", "aboveMean", "(II)J"⟩, prog_3_method_4_code, 6, 2, 44), (⟨"MakingLimits$Cells", "units", "(II)J"⟩, prog_3_method_5_code, 5, 1, 20), (⟨"MakingLimits$Cells", "forget", "()V"⟩, prog_3_method_6_code, 1, 1, 23), (⟨"MakingLimits$Grade", "<init>", "()V"⟩, prog_4_method_1_code, 1, 1, 20), (⟨"MakingLimits$Grade", "setLimit", "(II)V"⟩, prog_4_method_2_code, 3, 0, 0), (⟨"MakingLimits$Grade", "addStep", "(II)V"⟩, prog_4_method_3_code, 4, 0, 0), (⟨"MakingLimits$Grade", "setDays", "(I)V"⟩, prog_4_method_4_code, 2, 0, 0), (⟨"MakingLimits$Grade", "excess", "(II)I"⟩, prog_4_method_5_code, 4, 0, 0), (⟨"MakingLimits$Grade", "priceOf", "(J)J"⟩, prog_4_method_6_code, 8, 1, 23), (⟨"MakingLimits$Offer", "<init>", "()V"⟩, prog_5_method_1_code, 1, 1, 20), (⟨"MakingLimits$Offer", "add", "(LMakingLimits$Grade;)Z"⟩, prog_5_method_2_code, 2, 0, 0), (⟨"MakingLimits$Offer", "gradeAt", "(I)LMakingLimits$Grade;"⟩, prog_5_method_3_code, 2, 0, 0), (⟨"MakingLimits$Offer", "leastFor", "(LMakingLimits$Board;)I"⟩, prog_5_method_4_code, 4, 3, 67), (⟨"MakingLimits$Orders", "<init>", "()V"⟩, prog_6_method_1_code, 1, 1, 20), (⟨"MakingLimits$Orders", "add", "(IIIIJI)I"⟩, prog_6_method_2_code, 9, 0, 0), (⟨"MakingLimits$Orders", "hasNo", "(I)Z"⟩, prog_6_method_3_code, 2, 0, 0), (⟨"MakingLimits$Orders", "part", "(II)I"⟩, prog_6_method_4_code, 3, 1, 21), (⟨"MakingLimits$Orders", "forget", "()V"⟩, prog_6_method_5_code, 1, 0, 0), (⟨"MakingLimits$Quotes", "<init>", "()V"⟩, prog_7_method_1_code, 1, 1, 20), (⟨"MakingLimits$Quotes", "add", "(ILMakingLimits$Offer;J)I"⟩, prog_7_method_2_code, 5, 0, 0), (⟨"MakingLimits$Quotes", "latest", "(IJ)I"⟩, prog_7_method_3_code, 5, 0, 0), (⟨"MakingLimits$Quotes", "offerAt", "(I)LMakingLimits$Offer;"⟩, prog_7_method_4_code, 2, 0, 0), (⟨"MakingLimits$Quotes", "forget", "()V"⟩, prog_7_method_5_code, 1, 0, 0), (⟨"MakingLimits$Remarks", "<init>", "()V"⟩, prog_8_method_1_code, 1, 1, 20), (⟨"MakingLimits$Remarks", "collect", "(LMakingLimits$Board;LMakingLimits$Grade;)I"⟩, prog_8_method_2_code, 5, 2, 45), (⟨"MakingLimits$Remarks", "thingOf", "(I)I"⟩, prog_8_method_3_code, 2, 0, 0), (⟨"MakingLimits$Remarks", "excessOf", "(I)I"⟩, prog_8_method_4_code, 2, 0, 0), (⟨"MakingLimits$Remarks", "forget", "()V"⟩, prog_8_method_5_code, 1, 0, 0), (⟨"MakingLimits$Text", "<init>", "()V"⟩, prog_9_method_1_code, 1, 1, 20), (⟨"MakingLimits$Text", "add", "(I)Z"⟩, prog_9_method_2_code, 2, 0, 0), (⟨"MakingLimits$Text", "forget", "()V"⟩, prog_9_method_3_code, 1, 0, 0), (⟨"MakingLimits$Text", "place", "()I"⟩, prog_9_method_4_code, 1, 0, 0), (⟨"MakingLimits$Text", "readNumber", "(I)I"⟩, prog_9_method_5_code, 3, 2, 41), (⟨"MakingLimits$Text", "readOffer", "()LMakingLimits$Offer;"⟩, prog_9_method_6_code, 5, 4, 88), (⟨"MakingLimits$Text", "readGrade", "()LMakingLimits$Grade;"⟩, prog_9_method_7_code, 3, 3, 66), (⟨"MakingLimits$Text", "readLimits", "(LMakingLimits$Grade;)Z"⟩, prog_9_method_8_code, 4, 2, 42), (⟨"MakingLimits$Text", "readSteps", "(LMakingLimits$Grade;)Z"⟩, prog_9_method_9_code, 5, 2, 42), (⟨"MakingLimits$Text", "readDays", "(LMakingLimits$Grade;)Z"⟩, prog_9_method_10_code, 3, 2, 42), (⟨"MakingLimits$Text", "readWhole", "()I"⟩, prog_9_method_11_code, 3, 1, 20), (⟨"MakingLimits$Text", "passes", "(C)Z"⟩, prog_9_method_12_code, 2, 1, 20), (⟨"MakingLimits$Text", "next", "()I"⟩, prog_9_method_13_code, 1, 0, 0), (⟨"MakingLimits$Text", "isDigit", "(I)Z"⟩, prog_9_method_14_code, 1, 0, 0), (⟨"MakingLimitsModel", "<init>", "()V"⟩, prog_11_method_1_code, 1, 1, 21), (⟨"MakingLimitsModel", "empty", "()V"⟩, prog_11_method_2_code, 2, 0, 0), (⟨"MakingLimitsModel", "thrown", "()I"⟩, prog_11_method_3_code, 1, 0, 0), (⟨"MakingLimitsModel", "clear", "()V"⟩, prog_11_method_4_code, 1, 1, 21), (⟨"MakingLimitsModel", "unit", "(I)Z"⟩, prog_11_method_5_code, 2, 0, 0), (⟨"MakingLimitsModel", "now", "()I"⟩, prog_11_method_6_code, 1, 0, 0), (⟨"MakingLimitsModel", "expect", "(I)V"⟩, prog_11_method_7_code, 2, 1, 20), (⟨"MakingLimitsModel", "isDigit", "()Z"⟩, prog_11_method_8_code, 1, 1, 20), (⟨"MakingLimitsModel", "whole", "()J"⟩, prog_11_method_9_code, 4, 2, 40), (⟨"MakingLimitsModel", "place", "(II)I"⟩, prog_11_method_10_code, 2, 0, 0), (⟨"MakingLimitsModel", "readClass", "(I)V"⟩, prog_11_method_11_code, 13, 3, 63), (⟨"MakingLimitsModel", "copyClasses", "(II)V"⟩, prog_11_method_12_code, 4, 1, 21), (⟨"MakingLimitsModel", "maker", "()I"⟩, prog_11_method_13_code, 3, 4, 95), (⟨"MakingLimitsModel", "isLayer", "(I)Z"⟩, prog_11_method_14_code, 1, 0, 0), (⟨"MakingLimitsModel", "thing", "(IJI)I"⟩, prog_11_method_15_code, 6, 1, 20), (⟨"MakingLimitsModel", "isPlace", "(J)Z"⟩, prog_11_method_16_code, 2, 0, 0), (⟨"MakingLimitsModel", "at", "(IJJ)Z"⟩, prog_11_method_17_code, 6, 1, 21), (⟨"MakingLimitsModel", "beyond", "(III)J"⟩, prog_11_method_18_code, 6, 1, 21), (⟨"MakingLimitsModel", "makes", "(II)Z"⟩, prog_11_method_19_code, 5, 2, 46), (⟨"MakingLimitsModel", "leastOf", "(I)I"⟩, prog_11_method_20_code, 3, 3, 70), (⟨"MakingLimitsModel", "isMaker", "(I)Z"⟩, prog_11_method_21_code, 2, 0, 0), (⟨"MakingLimitsModel", "isClass", "(II)Z"⟩, prog_11_method_22_code, 3, 1, 21), (⟨"MakingLimitsModel", "run", "(II)I"⟩, prog_11_method_23_code, 4, 2, 46), (⟨"MakingLimitsModel", "remark", "(II)I"⟩, prog_11_method_24_code, 4, 0, 0), (⟨"MakingLimitsModel", "least", "(I)I"⟩, prog_11_method_25_code, 2, 4, 92), (⟨"MakingLimitsModel", "isQuantity", "(J)Z"⟩, prog_11_method_26_code, 2, 0, 0), (⟨"MakingLimitsModel", "priceOf", "(IIJ)J"⟩, prog_11_method_27_code, 8, 1, 21), (⟨"MakingLimitsModel", "price", "(IIJ)J"⟩, prog_11_method_28_code, 5, 2, 48), (⟨"MakingLimitsModel", "share", "(JJI)J"⟩, prog_11_method_29_code, 6, 1, 21), (⟨"MakingLimitsModel", "best", "(J)I"⟩, prog_11_method_30_code, 8, 4, 92), (⟨"MakingLimitsModel", "isCell", "(II)Z"⟩, prog_11_method_31_code, 2, 1, 20), (⟨"MakingLimitsModel", "copper", "(IIJJ)Z"⟩, prog_11_method_32_code, 10, 2, 41), (⟨"MakingLimitsModel", "balance", "(III)J"⟩, prog_11_method_33_code, 15, 2, 41), (⟨"MakingLimitsModel", "quote", "(IJ)I"⟩, prog_11_method_34_code, 4, 2, 44), (⟨"MakingLimitsModel", "order", "(IJJ)I"⟩, prog_11_method_35_code, 12, 4, 92), (⟨"MakingLimitsModel", "history", "(II)I"⟩, prog_11_method_36_code, 3, 0, 0), (⟨"MakingLimitsLaw", "thing", "(LMakingLimits;IJI[J)I"⟩, method_3_code, 7, 7, 106), (⟨"MakingLimitsLaw", "at", "(LMakingLimits;IJJ[J)I"⟩, method_4_code, 8, 7, 107), (⟨"MakingLimitsLaw", "run", "(LMakingLimits;II[J)I"⟩, method_5_code, 5, 9, 149), (⟨"MakingLimitsLaw", "remark", "(LMakingLimits;II[J)I"⟩, method_6_code, 5, 7, 105), (⟨"MakingLimitsLaw", "least", "(LMakingLimits;I[J)I"⟩, method_7_code, 4, 8, 125), (⟨"MakingLimitsLaw", "price", "(LMakingLimits;IIJ[J)I"⟩, method_8_code, 7, 9, 152), (⟨"MakingLimitsLaw", "share", "(LMakingLimits;JJI[J)I"⟩, method_9_code, 8, 7, 109), (⟨"MakingLimitsLaw", "balance", "(LMakingLimits;III[J)I"⟩, method_10_code, 6, 7, 109), (⟨"MakingLimitsLaw", "quote", "(LMakingLimits;IJ[J)I"⟩, method_11_code, 6, 8, 127), (⟨"MakingLimitsLaw", "copper", "(LMakingLimits;IIJJ[J)I"⟩, method_12_code, 9, 7, 108), (⟨"MakingLimitsLaw", "best", "(LMakingLimits;J[J)I"⟩, method_13_code, 5, 8, 131), (⟨"MakingLimitsLaw", "order", "(LMakingLimits;IJJ[J)I"⟩, method_14_code, 8, 8, 135), (⟨"MakingLimitsLaw", "history", "(LMakingLimits;II[J)I"⟩, method_15_code, 5, 7, 104), (⟨"MakingLimitsLaw", "law", "([I)Z"⟩, code, 8, 10, 178), (⟨"java/util/Arrays", "fill", "([II)V"⟩, prog_19_method_103_code, 4, 0, 0), (⟨"java/lang/Math", "max", "(II)I"⟩, prog_15_method_65_code, 2, 0, 0), (⟨"java/lang/Math", "max", "(JJ)J"⟩, prog_15_method_66_code, 4, 0, 0), (⟨"java/lang/Math", "abs", "(J)J"⟩, prog_15_method_61_code, 2, 0, 0)]
/-- a method's class, for its receiver -/
def ax_rc (mi : Nat) : Nat := match ax_pr[mi]? with
  | some M => M.1
  | none => 0
def ax_nl (mi : Nat) : Nat := match ax_mm[mi]? with
  | some q => q.2.2.1
  | none => 0
end
section
/-- words that stay true while the tables only grow warmer -/
def ax_gw : Jvm.Cond → Bool
  | .fieldLinkNest _ _ _ _ _ _ => true
  | .methodLinkNest _ _ _ _ => true
  | .arrayOver (.object _) => true
  | .stringRef _ _ _ => true
  | .castable _ _ => true
  | .declares _ => true
  | w => goodWord w
theorem ax_gw_keep {w : Jvm.Cond} (h : ax_gw w = true) {args a' : Array Value} {s U : State} (hW : s.WarmedH U.vm) (hb : w.before args s = true) : w.before a' U = true := by
  unfold ax_gw at h
  split at h
  · exact va_Nw.use rfl (va_Nw.warmF hW (va_Nw.of rfl hb))
  · exact va_Nw.use rfl (va_Nw.warmM hW (va_Nw.of rfl hb))
  · exact va_AO.use (va_AO.moved hW.alike (va_AO.of hb))
  · have h1 := Cond.stringRef_warmed (args := args) hW hb
    simp only [Cond.before, Cond.holds, Cond.value, State.names, State.poolOf?, State.resolvedAt?] at h1 ⊢
    exact h1
  · exact va_Nw.use rfl (va_Nw.warmC hW (va_Nw.of rfl hb))
  · rename_i y
    have h1 : (Cond.declares y).before args (s.setVm U.vm) = true := Cond.before_shiftedFace (State.Shifted.of_warmed hW) _ rfl hb
    exact h1
  · exact word_at hW (good_of_word h) hb
end
section
/-! the tables of links are the Statement's -/
abbrev ax_w (w : Jvm.Cond) : Prop := w ∈ lw_tbl ∧ ax_gw w = true
theorem ax_tI_ok : ∀ e ∈ ax_tI, ax_w (.constant (ax_cn e.1.1) e.1.2 e.2) := by decide +kernel
theorem ax_tL_ok : ∀ e ∈ ax_tL, ax_w (.constantLong (ax_cn e.1.1) e.1.2 e.2) := by decide +kernel
theorem ax_cls_all : ∀ q ∈ classes, ∀ w ∈ u_ws q.1 q.2.1 q.2.2, ax_w w := by decide +kernel
theorem ax_cls_ok (ci : Nat) (q : vw_C) (h : classes[ci]? = some q) : ∀ w ∈ u_ws q.1 q.2.1 q.2.2, ax_w w := ax_cls_all q (List.mem_of_getElem? h)
def ax_okF (e : (Nat × Nat) × (Nat × Nat)) : Bool := match classes[e.2.1]? with
  | some q => decide (e.2.2 < q.2.2) && (decide (ax_w (.fieldLink (ax_cn e.1.1) e.1.2 (q.2.1 e.2.2).1 (q.2.1 e.2.2).2.1 (q.2.1 e.2.2).2.2.1)) || (decide (¬ e.1.1 = e.2.1) && decide (ax_w (.fieldLinkNest (ax_cn e.1.1) e.1.2 (q.2.1 e.2.2).1 (q.2.1 e.2.2).2.1 (q.2.1 e.2.2).2.2.1 "MakingLimits"))))
  | none => false
theorem ax_tF_all : ax_tF.all ax_okF = true := by decide +kernel
theorem ax_tF_ok (e : (Nat × Nat) × (Nat × Nat)) (he : e ∈ ax_tF) : ∃ C T N, classes[e.2.1]? = some (C, T, N) ∧ e.2.2 < N ∧ (ax_w (.fieldLink (ax_cn e.1.1) e.1.2 (T e.2.2).1 (T e.2.2).2.1 (T e.2.2).2.2.1) ∨ ∃ host, ax_w (.fieldLinkNest (ax_cn e.1.1) e.1.2 (T e.2.2).1 (T e.2.2).2.1 (T e.2.2).2.2.1 host)) := by
  have h := List.all_eq_true.mp ax_tF_all e he
  unfold ax_okF at h
  split at h
  · rename_i q hq
    simp only [Bool.and_eq_true, Bool.or_eq_true, decide_eq_true_eq] at h
    exact ⟨q.1, q.2.1, q.2.2, hq, h.1, h.2.imp (fun z => z) (fun z => ⟨_, z.2⟩)⟩
  · cases h
theorem ax_tFown_ok (e : (Nat × Nat) × (Nat × Nat)) (he : e ∈ ax_tF) (ho : e.1.1 = e.2.1) {q : vw_C} (hq0 : classes[e.2.1]? = some q) : ax_w (.fieldLink (ax_cn e.1.1) e.1.2 (q.2.1 e.2.2).1 (q.2.1 e.2.2).2.1 (q.2.1 e.2.2).2.2.1) := by
  have h := List.all_eq_true.mp ax_tF_all e he
  unfold ax_okF at h
  split at h
  · rename_i q' hq
    cases hq0.symm.trans hq
    simp only [Bool.and_eq_true, Bool.or_eq_true, decide_eq_true_eq] at h
    rcases h.2 with h | h
    · exact h
    · exact absurd ho h.1
  · cases h
/-- a fact of every field of every class -/
def ax_each (f : Nat → vw_C → Nat → Bool) : Bool := (List.range 10).all (fun ci => match classes[ci]? with
  | some q => (List.range q.2.2).all (fun k => f ci q k)
  | none => false)
theorem ax_each_at {f : Nat → vw_C → Nat → Bool} (h : ax_each f = true) {ci : Nat} {q : vw_C} (hq : classes[ci]? = some q) {k : Nat} (hk : k < q.2.2) : f ci q k = true := by
  have hl : ci < 10 := (List.getElem?_eq_some_iff.mp hq).1
  have h1 := List.all_eq_true.mp h ci (List.mem_range.mpr hl)
  simp only [hq] at h1
  exact List.all_eq_true.mp h1 k (List.mem_range.mpr hk)
theorem ax_ty_all : ax_each (fun ci q k => decide (parseFieldDescriptor (q.2.1 k).2.2.1 = some (ax_ty ci k))) = true := by decide +kernel
theorem ax_ty_ok (ci : Nat) (q : vw_C) (hq : classes[ci]? = some q) : ∀ k, k < q.2.2 → parseFieldDescriptor (q.2.1 k).2.2.1 = some (ax_ty ci k) := fun _ hk => of_decide_eq_true (ax_each_at ax_ty_all hq hk)
theorem ax_nm_all : ax_each (fun _ q a => (List.range q.2.2).all (fun b => decide (a ≠ b → (q.2.1 a).2.1 ≠ (q.2.1 b).2.1))) = true := by decide +kernel
theorem ax_nm_ok (ci : Nat) (q : vw_C) (hq : classes[ci]? = some q) : ∀ a, a < q.2.2 → ∀ b, b < q.2.2 → a ≠ b → (q.2.1 a).2.1 ≠ (q.2.1 b).2.1 := fun _ ha b hb => of_decide_eq_true (List.all_eq_true.mp (ax_each_at ax_nm_all hq ha) b (List.mem_range.mpr hb))
theorem ax_fin_all : ax_each (fun ci q k => decide (ax_fin ci k = (q.2.1 k).2.2.2)) = true := by decide +kernel
theorem ax_fin_ok (ci : Nat) (q : vw_C) (hq : classes[ci]? = some q) (k : Nat) (hk : k < q.2.2) : ax_fin ci k = (q.2.1 k).2.2.2 := of_decide_eq_true (ax_each_at ax_fin_all hq hk)
theorem ax_own_all : ax_each (fun ci q k => decide ((q.2.1 k).1 = ax_cn ci)) = true := by decide +kernel
theorem ax_own_ok (ci : Nat) (q : vw_C) (hq : classes[ci]? = some q) (k : Nat) (hk : k < q.2.2) : (q.2.1 k).1 = ax_cn ci := of_decide_eq_true (ax_each_at ax_own_all hq hk)
theorem ax_dfl_all : ax_each (fun ci q k => decide (defaultValue (ax_ty ci k) = vp_V (ax_dfl ci) k) && decide ((ax_dfl ci).length = q.2.2)) = true := by decide +kernel
theorem ax_cn_all : (List.range 10).all (fun ci => match classes[ci]? with | some q => decide (q.1 = ax_cn ci) && decide (ax_w (.instantiable q.1 q.2.2)) && decide (ax_w (.initialized q.1)) && decide ((ax_dfl ci).length = q.2.2) | none => false) = true := by decide +kernel
theorem ax_cn_ok (ci : Nat) (q : vw_C) (hq : classes[ci]? = some q) : q.1 = ax_cn ci ∧ ax_w (.instantiable q.1 q.2.2) ∧ ax_w (.initialized q.1) ∧ (ax_dfl ci).length = q.2.2 := by
  have hl : ci < 10 := (List.getElem?_eq_some_iff.mp hq).1
  have h := List.all_eq_true.mp ax_cn_all ci (List.mem_range.mpr hl)
  simp only [hq, Bool.and_eq_true, decide_eq_true_eq] at h
  exact ⟨h.1.1.1, h.1.1.2, h.1.2, h.2⟩
theorem ax_tN_ok : ∀ e ∈ ax_tN, ax_w (.classLink (ax_cn e.1.1) e.1.2 (ax_cn e.2)) ∧ e.2 < 10 := by decide +kernel
theorem ax_tR_ok : ∀ e ∈ ax_tR, (e.2 = 3 ∧ ax_w (.classLink (ax_cn e.1.1) e.1.2 "MakingLimits$Offer")) ∨ (e.2 = 4 ∧ ax_w (.classLink (ax_cn e.1.1) e.1.2 "MakingLimits$Grade")) := by decide +kernel
theorem ax_ovO : ax_w (.arrayOver (.object "MakingLimits$Offer")) := by decide +kernel
theorem ax_ovG : ax_w (.arrayOver (.object "MakingLimits$Grade")) := by decide +kernel
theorem ax_arC : ax_w (.arrayClass (newarray.typeOf .char)) := by decide +kernel
theorem ax_arI : ax_w (.arrayClass (newarray.typeOf .int)) := by decide +kernel
theorem ax_arJ : ax_w (.arrayClass (newarray.typeOf .long)) := by decide +kernel
theorem ax_tO_ok : ∀ e ∈ ax_tO, ax_w (.methodLink (ax_cn e.1) e.2 Lib.objectInit) := by decide +kernel
theorem ax_oi_ok : ax_w (.instanceMethod Lib.objectInit) ∧ ax_w (.code Lib.objectInit ⟨#[0xb1]⟩ 1 none) := by decide +kernel
end
section
def ax_sto1 (i : Nat) (v : Value) (lv : ax_L) : ax_L := (i, v) :: lv.filter (fun q => !(q.1 == i) && !(q.1 + 1 == i && q.2.category == 2))
def ax_sto2 (i : Nat) (v : Value) (lv : ax_L) : ax_L := (i, v) :: lv.filter (fun q => !(q.1 == i) && (!(q.1 == i + 1) && !(q.1 + 1 == i && q.2.category == 2)))
def ax_isI : Value → Bool
  | .int _ => true
  | _ => false
def ax_isL : Value → Bool
  | .long _ => true
  | _ => false
def ax_isA : Value → Bool
  | .ref _ => true
  | .null => true
  | _ => false
abbrev ax_S : Type := Nat × ax_L × List Value × ax_H
def ax_load (ok : Value → Bool) (k nx : Nat) (lv : ax_L) (st : List Value) (h : ax_H) : Option ax_S := match lv.lookup k with
  | some v => if ok v = true then some (nx, lv, v :: st, h) else none
  | none => none
def ax_store1 (ok : Value → Bool) (k nx : Nat) (lv : ax_L) (st : List Value) (h : ax_H) : Option ax_S := match st with
  | v :: st => if ok v = true then some (nx, ax_sto1 k v lv, st, h) else none
  | _ => none
def ax_store2 (k nx : Nat) (lv : ax_L) (st : List Value) (h : ax_H) : Option ax_S := match st with
  | .long x :: st => some (nx, ax_sto2 k (.long x) lv, st, h)
  | _ => none
def ax_iinc (k : Nat) (n : Int) (nx : Nat) (lv : ax_L) (st : List Value) (h : ax_H) : Option ax_S := match lv.lookup k with
  | some (.int x) => some (nx, ax_sto1 k (.int (x + Int32.ofInt n)) lv, st, h)
  | _ => none
def ax_ii (f : Int32 → Int32 → Int32) (nx : Nat) (lv : ax_L) (st : List Value) (h : ax_H) : Option ax_S := match st with
  | .int y :: .int x :: st => some (nx, lv, .int (f x y) :: st, h)
  | _ => none
def ax_ll (f : Int64 → Int64 → Value) (nx : Nat) (lv : ax_L) (st : List Value) (h : ax_H) : Option ax_S := match st with
  | .long y :: .long x :: st => some (nx, lv, f x y :: st, h)
  | _ => none
def ax_lshl (nx : Nat) (lv : ax_L) (st : List Value) (h : ax_H) : Option ax_S := match st with
  | .int y :: .long x :: st => some (nx, lv, .long (x <<< (y.toInt64 &&& 63)) :: st, h)
  | _ => none
def ax_i1 (f : Int32 → Value) (nx : Nat) (lv : ax_L) (st : List Value) (h : ax_H) : Option ax_S := match st with
  | .int x :: st => some (nx, lv, f x :: st, h)
  | _ => none
def ax_l1 (f : Int64 → Value) (nx : Nat) (lv : ax_L) (st : List Value) (h : ax_H) : Option ax_S := match st with
  | .long x :: st => some (nx, lv, f x :: st, h)
  | _ => none
def ax_dup (nx : Nat) (lv : ax_L) (st : List Value) (h : ax_H) : Option ax_S := match st with
  | v :: st => if v.category = 1 then some (nx, lv, v :: v :: st, h) else none
  | _ => none
/-- an instruction that asks nothing of the cells, and goes one way -/
def ax_s (i : Instr) (nx tg : Nat) (lv : ax_L) (st : List Value) (h : ax_H) : Option ax_S := match i with
  | .aconst_null => some (nx, lv, .null :: st, h)
  | .iconst n => some (nx, lv, .int (Int32.ofInt n) :: st, h)
  | .bipush n => some (nx, lv, .int (Int8.ofInt n).toInt32 :: st, h)
  | .sipush n => some (nx, lv, .int (Int16.ofInt n).toInt32 :: st, h)
  | .lconst n => some (nx, lv, .long (Int64.ofNat (n : Nat)) :: st, h)
  | .iload k => ax_load ax_isI k nx lv st h
  | .iload_n k => ax_load ax_isI k nx lv st h
  | .lload k => ax_load ax_isL k nx lv st h
  | .lload_n k => ax_load ax_isL k nx lv st h
  | .aload k => ax_load ax_isA k nx lv st h
  | .aload_n k => ax_load ax_isA k nx lv st h
  | .istore k => ax_store1 ax_isI k nx lv st h
  | .istore_n k => ax_store1 ax_isI k nx lv st h
  | .astore k => ax_store1 ax_isA k nx lv st h
  | .astore_n k => ax_store1 ax_isA k nx lv st h
  | .lstore k => ax_store2 k nx lv st h
  | .lstore_n k => ax_store2 k nx lv st h
  | .iinc k n => ax_iinc k n nx lv st h
  | .iadd => ax_ii (fun x y => x + y) nx lv st h
  | .isub => ax_ii (fun x y => x - y) nx lv st h
  | .imul => ax_ii (fun x y => x * y) nx lv st h
  | .iand => ax_ii (fun x y => x &&& y) nx lv st h
  | .ladd => ax_ll (fun x y => .long (x + y)) nx lv st h
  | .lsub => ax_ll (fun x y => .long (x - y)) nx lv st h
  | .lmul => ax_ll (fun x y => .long (x * y)) nx lv st h
  | .land => ax_ll (fun x y => .long (x &&& y)) nx lv st h
  | .lor => ax_ll (fun x y => .long (x ||| y)) nx lv st h
  | .lcmp => ax_ll (fun x y => .int (lg_cmp x y)) nx lv st h
  | .lshl => ax_lshl nx lv st h
  | .i2l => ax_i1 (fun x => .long x.toInt64) nx lv st h
  | .i2c => ax_i1 (fun x => .int (x.toUInt32 % 65536).toInt32) nx lv st h
  | .ineg => ax_i1 (fun x => .int (-x)) nx lv st h
  | .lneg => ax_l1 (fun x => .long (-x)) nx lv st h
  | .l2i => ax_l1 (fun x => .int x.toInt32) nx lv st h
  | .dup => ax_dup nx lv st h
  | .goto _ => some (tg, lv, st, h)
  | _ => none
def ax_cnd (c : ClassFile.Cond) (x y : Int32) : Prop := match c with
  | .eq => x = y
  | .ne => ¬ x = y
  | .lt => x < y
  | .ge => y ≤ x
  | .gt => y < x
  | .le => x ≤ y
def ax_to (pc : Nat) (off : Int) : Nat := ((pc : Int) + off).toNat
def ax_key (M : ax_M) (ix : Nat) : Nat × Nat := (M.1, ix)
/-- where a switch goes -/
def ax_tsw (pc : Nat) (d lo hi : Int) (offs : Array Int) (x : Int32) : Option Nat :=
  if x.toInt < lo ∨ hi < x.toInt then some (ax_to pc d) else (offs[(x.toInt - lo).toNat]?).map (ax_to pc)
/-- which handler (from, to, handler, place of the class caught in the pool) of a method of class own takes a throw of E at pc -/
def ax_hand (own : Nat) : List (Nat × Nat × Nat × Nat) → Nat → Nat → Option Nat
  | [], _, _ => none
  | (a, b, t, k) :: l, pc, E => if a ≤ pc ∧ pc < b ∧ ax_tC.lookup (own, k) = some E then some t else ax_hand own l pc E
def ax_wsum (st : List Value) : Nat := (st.map fun v => v.category).sum
/-- a new array's contents, by its kind: 0 int, 1 long, 2 char, 3 and 4 references -/
def ax_blank (k : Nat) : (Nat → Int32) ⊕ (Nat → Int64) ⊕ (Nat → UInt32) ⊕ (Nat → UInt64) ⊕ (Nat → Option Nat) :=
  if k = 1 then .inr (.inl (fun _ => 0)) else if 3 ≤ k then .inr (.inr (.inr (.inr (fun _ => none)))) else .inl (fun _ => 0)
/-- the rest of a call, where the callee's run is known -/
def ax_call (C : Nat → List Value → ax_H → ax_R → Prop) (M : ax_M) (ix pc nx : Nat) (lv : ax_L) (st : List Value) (h : ax_H) (r : ax_R) (K : Nat → ax_L → List Value → ax_H → Prop) : Prop :=
  ∃ mi n, ax_tM.lookup (ax_key M ix) = some (mi, n) ∧ n ≤ st.length ∧ ax_wsum (st.drop n) ≤ 8 ∧
    ((∃ v h1, C mi (st.take n).reverse h (.inl v, h1) ∧ K nx lv (v.toList ++ st.drop n) h1) ∨
     (∃ E h1, C mi (st.take n).reverse h (.inr E, h1) ∧ E < 2 ∧
       ((∃ t, ax_hand M.1 M.2.2.2.1 pc E = some t ∧ K t lv [.ref (h1.1.length - 1)] h1) ∨ (ax_hand M.1 M.2.2.2.1 pc E = none ∧ r = (.inr E, h1)))))
/-- the object that is called is one of the method's class -/
def ax_recv (M : ax_M) (ix : Nat) (st : List Value) (h : ax_H) : Prop := ∃ mi n a as fs, ax_tM.lookup (ax_key M ix) = some (mi, n) ∧ (st.take n).reverse = .ref a :: as ∧ h.1[a]? = some (some (.inr (ax_rc mi, fs)))
/-- something is made there -/
def ax_mk (M : ax_M) (ix : Nat) (st : List Value) : Prop := ∃ mi n a as, ax_tM.lookup (ax_key M ix) = some (mi, n) ∧ (st.take n).reverse = .ref a :: as
/-- an instruction that looks into the cells, goes two ways, calls or ends -/
def ax_b (C : Nat → List Value → ax_H → ax_R → Prop) (M : ax_M) (i : Instr) (pc nx tg : Nat) (lv : ax_L) (st : List Value) (h : ax_H) (r : ax_R) (K : Nat → ax_L → List Value → ax_H → Prop) : Prop := match i with
  | .ldc ix => ∃ v, ax_tI.lookup (ax_key M ix) = some v ∧ K nx lv (.int v :: st) h
  | .ldc2_w ix => ∃ v, ax_tL.lookup (ax_key M ix) = some v ∧ K nx lv (.long v :: st) h
  | .idiv => ∃ x y st', st = .int y :: .int x :: st' ∧ ¬ y = 0 ∧ K nx lv (.int (x / y) :: st') h
  | .ldiv => ∃ x y st', st = .long y :: .long x :: st' ∧ ¬ y = 0 ∧ K nx lv (.long (x / y) :: st') h
  | .lrem => ∃ x y st', st = .long y :: .long x :: st' ∧ ¬ y = 0 ∧ K nx lv (.long (x - x / y * y) :: st') h
  | .if_icmp c _ => ∃ x y st', st = .int y :: .int x :: st' ∧ (ax_cnd c x y → K tg lv st' h) ∧ (¬ ax_cnd c x y → K nx lv st' h)
  | .ifCond c _ => ∃ x st', st = .int x :: st' ∧ (ax_cnd c x 0 → K tg lv st' h) ∧ (¬ ax_cnd c x 0 → K nx lv st' h)
  | .ifnull _ => ∃ v st', st = v :: st' ∧ ((v = .null ∧ K tg lv st' h) ∨ ((∃ a, v = .ref a) ∧ K nx lv st' h))
  | .ifnonnull _ => ∃ v st', st = v :: st' ∧ ((v = .null ∧ K nx lv st' h) ∨ ((∃ a, v = .ref a) ∧ K tg lv st' h))
  | .tableswitch d lo hi offs => ∃ x st' t, st = .int x :: st' ∧ ax_tsw pc d lo hi offs x = some t ∧ K t lv st' h
  | .lookupswitch d ps => ∃ x st', st = .int x :: st' ∧ K (ax_to pc (Op.lookupswitch.offset ps.toList d x.toInt)) lv st' h
  | .getfield ix => ∃ a st' ci k fs v, st = .ref a :: st' ∧ ax_tF.lookup (ax_key M ix) = some (ci, k) ∧ h.1[a]? = some (some (.inr (ci, fs))) ∧ fs[k]? = some v ∧ K nx lv (v :: st') h
  | .putfield ix => ∃ a v st' ci k fs, st = v :: .ref a :: st' ∧ ax_tF.lookup (ax_key M ix) = some (ci, k) ∧ h.1[a]? = some (some (.inr (ci, fs))) ∧ k < fs.length ∧ (ax_fin ci k = false ∨ (M.2.2.2.2 = true ∧ M.1 = ci)) ∧ narrow (ax_ty ci k) v = v ∧ fits (ax_ty ci k) v = true ∧
      K nx lv st' (h.1.set a (some (.inr (ci, fs.set k v))), h.2)
  | .iaload => ∃ a i st' k n f, st = .int i :: .ref a :: st' ∧ h.1[a]? = some (some (.inl (k, n, .inl f))) ∧ (k = 0 ∨ k = 9) ∧ vp_in i n ∧ K nx lv (.int (f i.toNatClampNeg) :: st') h
  | .caload => ∃ a i st' n f, st = .int i :: .ref a :: st' ∧ h.1[a]? = some (some (.inl (2, n, .inl f))) ∧ vp_in i n ∧ K nx lv (.int (f i.toNatClampNeg) :: st') h
  | .laload => ∃ a i st' n f, st = .int i :: .ref a :: st' ∧ h.1[a]? = some (some (.inl (1, n, .inr (.inl f)))) ∧ vp_in i n ∧ K nx lv (.long (f i.toNatClampNeg) :: st') h
  | .aaload => ∃ a i st' k n f, st = .int i :: .ref a :: st' ∧ h.1[a]? = some (some (.inl (k, n, .inr (.inr (.inr (.inr f)))))) ∧ (k = 3 ∨ k = 4) ∧ vp_in i n ∧ K nx lv (va_rf (f i.toNatClampNeg) :: st') h
  | .iastore => ∃ a i x st' n f, st = .int x :: .int i :: .ref a :: st' ∧ h.1[a]? = some (some (.inl (0, n, .inl f))) ∧ vp_in i n ∧ K nx lv st' (h.1.set a (some (.inl (0, n, .inl (upd f i.toNatClampNeg x)))), h.2)
  | .castore => ∃ a i x st' n f, st = .int x :: .int i :: .ref a :: st' ∧ h.1[a]? = some (some (.inl (2, n, .inl f))) ∧ vp_in i n ∧ K nx lv st' (h.1.set a (some (.inl (2, n, .inl (upd f i.toNatClampNeg (vp_nar .char x))))), h.2)
  | .lastore => ∃ a i x st' n f, st = .long x :: .int i :: .ref a :: st' ∧ h.1[a]? = some (some (.inl (1, n, .inr (.inl f)))) ∧ vp_in i n ∧ K nx lv st' (h.1.set a (some (.inl (1, n, .inr (.inl (vp_updL f i.toNatClampNeg x))))), h.2)
  | .aastore => ∃ a i o st' k n f, st = va_rf o :: .int i :: .ref a :: st' ∧ h.1[a]? = some (some (.inl (k, n, .inr (.inr (.inr (.inr f)))))) ∧ (k = 3 ∨ k = 4) ∧ vp_in i n ∧ (∀ v, o = some v → ∃ fs, h.1[v]? = some (some (.inr (ax_cmp k, fs)))) ∧
      K nx lv st' (h.1.set a (some (.inl (k, n, .inr (.inr (.inr (.inr (va_up f i.toNatClampNeg o))))))), h.2)
  | .arraylength => ∃ a st' k n z, st = .ref a :: st' ∧ h.1[a]? = some (some (.inl (k, n, z))) ∧ (k < 5 ∨ (k = 9 ∧ a = 0)) ∧ K nx lv (.int (nI n) :: st') h
  | .newarray t => ∃ n st' k, st = .int n :: st' ∧ ax_ak t = some k ∧ ¬ n < 0 ∧ n.toNatClampNeg ≤ 1000000 ∧ K nx lv (.ref h.1.length :: st') (h.1 ++ [some (.inl (k, n.toNatClampNeg, ax_blank k))], h.2 + n.toNatClampNeg)
  | .anewarray ix => ∃ n st' k, st = .int n :: st' ∧ ax_tR.lookup (ax_key M ix) = some k ∧ ¬ n < 0 ∧ n.toNatClampNeg ≤ 1000000 ∧ K nx lv (.ref h.1.length :: st') (h.1 ++ [some (.inl (k, n.toNatClampNeg, ax_blank k))], h.2 + n.toNatClampNeg)
  | .new ix => (∃ ci, ax_tN.lookup (ax_key M ix) = some ci ∧ K nx lv (.ref h.1.length :: st) (h.1 ++ [some (.inr (ci, ax_dfl ci))], h.2 + (ax_dfl ci).length)) ∨
      (∃ E ik is, ax_tX.lookup (ax_key M ix) = some (E, ik) ∧ st = [] ∧ M.2.2.2.1 = [] ∧ M.2.2.1.lookup nx = some (.dup, nx + 1, 0) ∧ M.2.2.1.lookup (nx + 1) = some (.ldc is, nx + 3, 0) ∧ ax_key M is ∈ ax_tS ∧ M.2.2.1.lookup (nx + 3) = some (.invokespecial ik, nx + 6, 0) ∧ M.2.2.1.lookup (nx + 6) = some (.athrow, nx + 7, 0) ∧ r = (.inr E, (h.1 ++ [none], h.2 + 6)))
  | .invokestatic ix => ax_call C M ix pc nx lv st h r K
  | .invokevirtual ix => ax_recv M ix st h ∧ ax_call C M ix pc nx lv st h r K
  | .invokespecial ix => (ax_key M ix ∈ ax_tO ∧ (∃ a st', st = .ref a :: st' ∧ ax_wsum st' ≤ 8 ∧ K nx lv st' h)) ∨ (ax_mk M ix st ∧ ax_call C M ix pc nx lv st h r K)
  | .ireturn => ∃ x rt, st = [.int x] ∧ M.2.1 = some rt ∧ narrow rt (.int x) = .int x ∧ r = (.inl (some (.int x)), h)
  | .lreturn => ∃ x, st = [.long x] ∧ M.2.1 = some .long ∧ r = (.inl (some (.long x)), h)
  | .areturn => ∃ v n, st = [v] ∧ M.2.1 = some (.object n) ∧ ax_isA v = true ∧ r = (.inl (some v), h)
  | .return_ => st = [] ∧ M.2.1 = none ∧ r = (.inl none, h)
  | _ => False
/-- one instruction: what K must say of the next places for the method to go on and end as r says -/
def ax_step (C : Nat → List Value → ax_H → ax_R → Prop) (M : ax_M) (pc : Nat) (lv : ax_L) (st : List Value) (h : ax_H) (r : ax_R) (K : Nat → ax_L → List Value → ax_H → Prop) : Prop :=
  ∃ i nx tg, M.2.2.1.lookup pc = some (i, nx, tg) ∧ ((∃ s : ax_S, ax_s i nx tg lv st h = some s ∧ K s.1 s.2.1 s.2.2.1 s.2.2.2) ∨ ax_b C M i pc nx tg lv st h r K)
/-- from here the method ends as r says: the least such relation -/
def ax_go (C : Nat → List Value → ax_H → ax_R → Prop) (M : ax_M) (r : ax_R) (pc : Nat) (lv : ax_L) (st : List Value) (h : ax_H) : Prop :=
  ∀ P : Nat → ax_L → List Value → ax_H → Prop, (∀ pc lv st h, ax_step C M pc lv st h r P → P pc lv st h) → P pc lv st h
/-- method number mi, called with these values over these cells, ends as r says -/
def ax_run (mi : Nat) (as : List Value) (h : ax_H) (r : ax_R) : Prop :=
  ∀ P : Nat → List Value → ax_H → ax_R → Prop, (∀ mi as h r, (∃ M, ax_pr[mi]? = some M ∧ ax_wsum as ≤ ax_nl mi ∧ ax_go P M r 0 (lv_args 0 as) [] h) → P mi as h r) → P mi as h r
end
section
section AxMono
variable {C C' : Nat → List Value → ax_H → ax_R → Prop} {M : ax_M} {r : ax_R} {K K' : Nat → ax_L → List Value → ax_H → Prop}
theorem ax_call_mono (hC : ∀ mi as h r, C mi as h r → C' mi as h r) (hK : ∀ pc lv st h, K pc lv st h → K' pc lv st h) {ix pc nx : Nat} {lv : ax_L} {st : List Value} {h : ax_H} (hb : ax_call C M ix pc nx lv st h r K) : ax_call C' M ix pc nx lv st h r K' := by
  obtain ⟨mi, n, h1, h2, h3, h4⟩ := hb
  refine ⟨mi, n, h1, h2, h3, ?_⟩
  rcases h4 with ⟨v, g, c, k⟩ | ⟨E, g, c, hE, k⟩
  · exact Or.inl ⟨v, g, hC _ _ _ _ c, hK _ _ _ _ k⟩
  · refine Or.inr ⟨E, g, hC _ _ _ _ c, hE, ?_⟩
    rcases k with ⟨t, k1, k2⟩ | k
    · exact Or.inl ⟨t, k1, hK _ _ _ _ k2⟩
    · exact Or.inr k
theorem ax_b_mono (hC : ∀ mi as h r, C mi as h r → C' mi as h r) (hK : ∀ pc lv st h, K pc lv st h → K' pc lv st h) {i : Instr} {pc nx tg : Nat} {lv : ax_L} {st : List Value} {h : ax_H} (hb : ax_b C M i pc nx tg lv st h r K) : ax_b C' M i pc nx tg lv st h r K' := by
  cases i with
  | ldc ix => obtain ⟨v, a, k⟩ := hb; exact ⟨v, a, hK _ _ _ _ k⟩
  | ldc2_w ix => obtain ⟨v, a, k⟩ := hb; exact ⟨v, a, hK _ _ _ _ k⟩
  | idiv => obtain ⟨x, y, s, a, b, k⟩ := hb; exact ⟨x, y, s, a, b, hK _ _ _ _ k⟩
  | ldiv => obtain ⟨x, y, s, a, b, k⟩ := hb; exact ⟨x, y, s, a, b, hK _ _ _ _ k⟩
  | lrem => obtain ⟨x, y, s, a, b, k⟩ := hb; exact ⟨x, y, s, a, b, hK _ _ _ _ k⟩
  | if_icmp c o => obtain ⟨x, y, s, a, k1, k2⟩ := hb; exact ⟨x, y, s, a, fun q => hK _ _ _ _ (k1 q), fun q => hK _ _ _ _ (k2 q)⟩
  | ifCond c o => obtain ⟨x, s, a, k1, k2⟩ := hb; exact ⟨x, s, a, fun q => hK _ _ _ _ (k1 q), fun q => hK _ _ _ _ (k2 q)⟩
  | ifnull o => obtain ⟨v, s, a, k⟩ := hb; exact ⟨v, s, a, k.imp (fun q => ⟨q.1, hK _ _ _ _ q.2⟩) (fun q => ⟨q.1, hK _ _ _ _ q.2⟩)⟩
  | ifnonnull o => obtain ⟨v, s, a, k⟩ := hb; exact ⟨v, s, a, k.imp (fun q => ⟨q.1, hK _ _ _ _ q.2⟩) (fun q => ⟨q.1, hK _ _ _ _ q.2⟩)⟩
  | tableswitch d lo hi offs => obtain ⟨x, s, t, a, b, k⟩ := hb; exact ⟨x, s, t, a, b, hK _ _ _ _ k⟩
  | lookupswitch d ps => obtain ⟨x, s, a, k⟩ := hb; exact ⟨x, s, a, hK _ _ _ _ k⟩
  | getfield ix => obtain ⟨a, s, ci, k, fs, v, a1, a2, a3, a4, q⟩ := hb; exact ⟨a, s, ci, k, fs, v, a1, a2, a3, a4, hK _ _ _ _ q⟩
  | putfield ix => obtain ⟨a, v, s, ci, k, fs, a1, a2, a3, a4, a5, a6, a7, q⟩ := hb; exact ⟨a, v, s, ci, k, fs, a1, a2, a3, a4, a5, a6, a7, hK _ _ _ _ q⟩
  | iaload => obtain ⟨a, j, s, k, n, f, a1, a2, a3, a4, q⟩ := hb; exact ⟨a, j, s, k, n, f, a1, a2, a3, a4, hK _ _ _ _ q⟩
  | caload => obtain ⟨a, j, s, n, f, a1, a2, a3, q⟩ := hb; exact ⟨a, j, s, n, f, a1, a2, a3, hK _ _ _ _ q⟩
  | laload => obtain ⟨a, j, s, n, f, a1, a2, a3, q⟩ := hb; exact ⟨a, j, s, n, f, a1, a2, a3, hK _ _ _ _ q⟩
  | aaload => obtain ⟨a, j, s, k, n, f, a1, a2, a3, a4, q⟩ := hb; exact ⟨a, j, s, k, n, f, a1, a2, a3, a4, hK _ _ _ _ q⟩
  | iastore => obtain ⟨a, j, x, s, n, f, a1, a2, a3, q⟩ := hb; exact ⟨a, j, x, s, n, f, a1, a2, a3, hK _ _ _ _ q⟩
  | castore => obtain ⟨a, j, x, s, n, f, a1, a2, a3, q⟩ := hb; exact ⟨a, j, x, s, n, f, a1, a2, a3, hK _ _ _ _ q⟩
  | lastore => obtain ⟨a, j, x, s, n, f, a1, a2, a3, q⟩ := hb; exact ⟨a, j, x, s, n, f, a1, a2, a3, hK _ _ _ _ q⟩
  | aastore => obtain ⟨a, j, o, s, k, n, f, a1, a2, a3, a4, a5, q⟩ := hb; exact ⟨a, j, o, s, k, n, f, a1, a2, a3, a4, a5, hK _ _ _ _ q⟩
  | arraylength => obtain ⟨a, s, k, n, z, a1, a2, a3, q⟩ := hb; exact ⟨a, s, k, n, z, a1, a2, a3, hK _ _ _ _ q⟩
  | newarray t => obtain ⟨n, s, k, a1, a2, a3, a4, q⟩ := hb; exact ⟨n, s, k, a1, a2, a3, a4, hK _ _ _ _ q⟩
  | anewarray ix => obtain ⟨n, s, k, a1, a2, a3, a4, q⟩ := hb; exact ⟨n, s, k, a1, a2, a3, a4, hK _ _ _ _ q⟩
  | new ix =>
    rcases hb with ⟨ci, a, q⟩ | hb
    · exact Or.inl ⟨ci, a, hK _ _ _ _ q⟩
    · exact Or.inr hb
  | invokestatic ix => exact ax_call_mono hC hK hb
  | invokevirtual ix => exact ⟨hb.1, ax_call_mono hC hK hb.2⟩
  | invokespecial ix =>
    rcases hb with ⟨a1, a, s, a2, a3, q⟩ | hb
    · exact Or.inl ⟨a1, a, s, a2, a3, hK _ _ _ _ q⟩
    · exact Or.inr ⟨hb.1, ax_call_mono hC hK hb.2⟩
  | ireturn => exact hb
  | lreturn => exact hb
  | areturn => exact hb
  | return_ => exact hb
  | _ => exact hb
theorem ax_step_mono (hC : ∀ mi as h r, C mi as h r → C' mi as h r) (hK : ∀ pc lv st h, K pc lv st h → K' pc lv st h) {pc : Nat} {lv : ax_L} {st : List Value} {h : ax_H} (hb : ax_step C M pc lv st h r K) : ax_step C' M pc lv st h r K' := by
  obtain ⟨i, nx, tg, hd, q⟩ := hb
  exact ⟨i, nx, tg, hd, q.imp (fun ⟨s, a, k⟩ => ⟨s, a, hK _ _ _ _ k⟩) (ax_b_mono hC hK)⟩
theorem ax_go_mono (hC : ∀ mi as h r, C mi as h r → C' mi as h r) {pc : Nat} {lv : ax_L} {st : List Value} {h : ax_H} (hg : ax_go C M r pc lv st h) : ax_go C' M r pc lv st h :=
  fun P hP => hg P (fun pc lv st h q => hP pc lv st h (ax_step_mono hC (fun _ _ _ _ k => k) q))
theorem ax_go_st {pc : Nat} {lv : ax_L} {st : List Value} {h : ax_H} (q : ax_step C M pc lv st h r (ax_go C M r)) : ax_go C M r pc lv st h :=
  fun P hP => hP _ _ _ _ (ax_step_mono (fun _ _ _ _ k => k) (fun _ _ _ _ k => k P hP) q)
end AxMono
/-- a method's run out of its body's -/
theorem ax_run_of {mi : Nat} {as : List Value} {h : ax_H} {r : ax_R} (M : ax_M) (hM : ax_pr[mi]? = some M) (hw : ax_wsum as ≤ ax_nl mi) (hg : ax_go ax_run M r 0 (lv_args 0 as) [] h) : ax_run mi as h r :=
  fun P hP => hP _ _ _ _ ⟨M, hM, hw, ax_go_mono (fun _ _ _ _ q => q P hP) hg⟩
section AxRows
variable {C : Nat → List Value → ax_H → ax_R → Prop} {M : ax_M} {r : ax_R} {pc nx tg : Nat} {lv lv' : ax_L} {st st' : List Value} {h h' : ax_H}
/-- straight on -/
theorem gs {i : Instr} {pc' : Nat} (hd : M.2.2.1.lookup pc = some (i, nx, tg)) (hs : ax_s i nx tg lv st h = some (pc', lv', st', h')) (k : ax_go C M r pc' lv' st' h') : ax_go C M r pc lv st h := ax_go_st ⟨i, nx, tg, hd, Or.inl ⟨_, hs, k⟩⟩
theorem gb {i : Instr} (hd : M.2.2.1.lookup pc = some (i, nx, tg)) (hb : ax_b C M i pc nx tg lv st h r (ax_go C M r)) : ax_go C M r pc lv st h := ax_go_st ⟨i, nx, tg, hd, Or.inr hb⟩
theorem g_ldc {ix : Nat} {v : Int32} (hd : M.2.2.1.lookup pc = some (.ldc ix, nx, tg)) (hv : ax_tI.lookup (ax_key M ix) = some v) (k : ax_go C M r nx lv (.int v :: st) h) : ax_go C M r pc lv st h := gb hd ⟨v, hv, k⟩
theorem g_ldc2 {ix : Nat} {v : Int64} (hd : M.2.2.1.lookup pc = some (.ldc2_w ix, nx, tg)) (hv : ax_tL.lookup (ax_key M ix) = some v) (k : ax_go C M r nx lv (.long v :: st) h) : ax_go C M r pc lv st h := gb hd ⟨v, hv, k⟩
theorem g_idiv {x y : Int32} (hd : M.2.2.1.lookup pc = some (.idiv, nx, tg)) (hy : ¬ y = 0) (k : ax_go C M r nx lv (.int (x / y) :: st) h) : ax_go C M r pc lv (.int y :: .int x :: st) h := gb hd ⟨x, y, st, rfl, hy, k⟩
theorem g_ldiv {x y : Int64} (hd : M.2.2.1.lookup pc = some (.ldiv, nx, tg)) (hy : ¬ y = 0) (k : ax_go C M r nx lv (.long (x / y) :: st) h) : ax_go C M r pc lv (.long y :: .long x :: st) h := gb hd ⟨x, y, st, rfl, hy, k⟩
theorem g_lrem {x y : Int64} (hd : M.2.2.1.lookup pc = some (.lrem, nx, tg)) (hy : ¬ y = 0) (k : ax_go C M r nx lv (.long (x - x / y * y) :: st) h) : ax_go C M r pc lv (.long y :: .long x :: st) h := gb hd ⟨x, y, st, rfl, hy, k⟩
/-- two ways -/
theorem g_if2 {c : ClassFile.Cond} {o : Int} {x y : Int32} (hd : M.2.2.1.lookup pc = some (.if_icmp c o, nx, tg)) (k1 : ax_cnd c x y → ax_go C M r tg lv st h) (k2 : ¬ ax_cnd c x y → ax_go C M r nx lv st h) : ax_go C M r pc lv (.int y :: .int x :: st) h := gb hd ⟨x, y, st, rfl, k1, k2⟩
theorem g_if1 {c : ClassFile.Cond} {o : Int} {x : Int32} (hd : M.2.2.1.lookup pc = some (.ifCond c o, nx, tg)) (k1 : ax_cnd c x 0 → ax_go C M r tg lv st h) (k2 : ¬ ax_cnd c x 0 → ax_go C M r nx lv st h) : ax_go C M r pc lv (.int x :: st) h := gb hd ⟨x, st, rfl, k1, k2⟩
theorem g_nul {o : Int} (hd : M.2.2.1.lookup pc = some (.ifnull o, nx, tg)) (k : ax_go C M r tg lv st h) : ax_go C M r pc lv (.null :: st) h := gb hd ⟨.null, st, rfl, Or.inl ⟨rfl, k⟩⟩
theorem g_nulR {o : Int} {a : Nat} (hd : M.2.2.1.lookup pc = some (.ifnull o, nx, tg)) (k : ax_go C M r nx lv st h) : ax_go C M r pc lv (.ref a :: st) h := gb hd ⟨.ref a, st, rfl, Or.inr ⟨⟨a, rfl⟩, k⟩⟩
theorem g_nnl {o : Int} (hd : M.2.2.1.lookup pc = some (.ifnonnull o, nx, tg)) (k : ax_go C M r nx lv st h) : ax_go C M r pc lv (.null :: st) h := gb hd ⟨.null, st, rfl, Or.inl ⟨rfl, k⟩⟩
theorem g_nnlR {o : Int} {a : Nat} (hd : M.2.2.1.lookup pc = some (.ifnonnull o, nx, tg)) (k : ax_go C M r tg lv st h) : ax_go C M r pc lv (.ref a :: st) h := gb hd ⟨.ref a, st, rfl, Or.inr ⟨⟨a, rfl⟩, k⟩⟩
theorem g_tsw {d lo hi : Int} {offs : Array Int} {x : Int32} {t : Nat} (hd : M.2.2.1.lookup pc = some (.tableswitch d lo hi offs, nx, tg)) (ht : ax_tsw pc d lo hi offs x = some t) (k : ax_go C M r t lv st h) : ax_go C M r pc lv (.int x :: st) h := gb hd ⟨x, st, t, rfl, ht, k⟩
theorem g_lsw {d : Int} {ps : Array (Int × Int)} {x : Int32} {t : Nat} (hd : M.2.2.1.lookup pc = some (.lookupswitch d ps, nx, tg)) (ht : ax_to pc (Op.lookupswitch.offset ps.toList d x.toInt) = t) (k : ax_go C M r t lv st h) : ax_go C M r pc lv (.int x :: st) h := gb hd ⟨x, st, rfl, by rw [ht]; exact k⟩
/-- fields -/
theorem g_get {ix a ci j : Nat} {fs : List Value} {v : Value} (hd : M.2.2.1.lookup pc = some (.getfield ix, nx, tg)) (hf : ax_tF.lookup (ax_key M ix) = some (ci, j)) (hc : h.1[a]? = some (some (.inr (ci, fs)))) (hv : fs[j]? = some v) (k : ax_go C M r nx lv (v :: st) h) : ax_go C M r pc lv (.ref a :: st) h := gb hd ⟨a, st, ci, j, fs, v, rfl, hf, hc, hv, k⟩
theorem g_put {ix a ci j : Nat} {fs : List Value} {v : Value} (hd : M.2.2.1.lookup pc = some (.putfield ix, nx, tg)) (hf : ax_tF.lookup (ax_key M ix) = some (ci, j)) (hc : h.1[a]? = some (some (.inr (ci, fs)))) (hl : j < fs.length) (hw : ax_fin ci j = false ∨ (M.2.2.2.2 = true ∧ M.1 = ci)) (hn : narrow (ax_ty ci j) v = v) (ht : fits (ax_ty ci j) v = true)
    (k : ax_go C M r nx lv st (h.1.set a (some (.inr (ci, fs.set j v))), h.2)) : ax_go C M r pc lv (v :: .ref a :: st) h := gb hd ⟨a, v, st, ci, j, fs, rfl, hf, hc, hl, hw, hn, ht, k⟩
/-- arrays -/
theorem g_iald {a n : Nat} {i : Int32} {f : Nat → Int32} (hd : M.2.2.1.lookup pc = some (.iaload, nx, tg)) (hc : h.1[a]? = some (some (.inl (0, n, .inl f)))) (hi : vp_in i n) (k : ax_go C M r nx lv (.int (f i.toNatClampNeg) :: st) h) : ax_go C M r pc lv (.int i :: .ref a :: st) h := gb hd ⟨a, i, st, 0, n, f, rfl, hc, Or.inl rfl, hi, k⟩
theorem g_sald {a n : Nat} {i : Int32} {f : Nat → Int32} (hd : M.2.2.1.lookup pc = some (.iaload, nx, tg)) (hc : h.1[a]? = some (some (.inl (9, n, .inl f)))) (hi : vp_in i n) (k : ax_go C M r nx lv (.int (f i.toNatClampNeg) :: st) h) : ax_go C M r pc lv (.int i :: .ref a :: st) h := gb hd ⟨a, i, st, 9, n, f, rfl, hc, Or.inr rfl, hi, k⟩
theorem g_cald {a n : Nat} {i : Int32} {f : Nat → Int32} (hd : M.2.2.1.lookup pc = some (.caload, nx, tg)) (hc : h.1[a]? = some (some (.inl (2, n, .inl f)))) (hi : vp_in i n) (k : ax_go C M r nx lv (.int (f i.toNatClampNeg) :: st) h) : ax_go C M r pc lv (.int i :: .ref a :: st) h := gb hd ⟨a, i, st, n, f, rfl, hc, hi, k⟩
theorem g_lald {a n : Nat} {i : Int32} {f : Nat → Int64} (hd : M.2.2.1.lookup pc = some (.laload, nx, tg)) (hc : h.1[a]? = some (some (.inl (1, n, .inr (.inl f))))) (hi : vp_in i n) (k : ax_go C M r nx lv (.long (f i.toNatClampNeg) :: st) h) : ax_go C M r pc lv (.int i :: .ref a :: st) h := gb hd ⟨a, i, st, n, f, rfl, hc, hi, k⟩
theorem g_aald {a n q : Nat} {i : Int32} {f : Nat → Option Nat} (hd : M.2.2.1.lookup pc = some (.aaload, nx, tg)) (hc : h.1[a]? = some (some (.inl (q, n, .inr (.inr (.inr (.inr f))))))) (hq : q = 3 ∨ q = 4) (hi : vp_in i n) (k : ax_go C M r nx lv (va_rf (f i.toNatClampNeg) :: st) h) : ax_go C M r pc lv (.int i :: .ref a :: st) h := gb hd ⟨a, i, st, q, n, f, rfl, hc, hq, hi, k⟩
theorem g_iast {a n : Nat} {i x : Int32} {f : Nat → Int32} (hd : M.2.2.1.lookup pc = some (.iastore, nx, tg)) (hc : h.1[a]? = some (some (.inl (0, n, .inl f)))) (hi : vp_in i n) (k : ax_go C M r nx lv st (h.1.set a (some (.inl (0, n, .inl (upd f i.toNatClampNeg x)))), h.2)) : ax_go C M r pc lv (.int x :: .int i :: .ref a :: st) h := gb hd ⟨a, i, x, st, n, f, rfl, hc, hi, k⟩
theorem g_cast {a n : Nat} {i x : Int32} {f : Nat → Int32} (hd : M.2.2.1.lookup pc = some (.castore, nx, tg)) (hc : h.1[a]? = some (some (.inl (2, n, .inl f)))) (hi : vp_in i n) (k : ax_go C M r nx lv st (h.1.set a (some (.inl (2, n, .inl (upd f i.toNatClampNeg (vp_nar .char x))))), h.2)) : ax_go C M r pc lv (.int x :: .int i :: .ref a :: st) h := gb hd ⟨a, i, x, st, n, f, rfl, hc, hi, k⟩
theorem g_last {a n : Nat} {i : Int32} {x : Int64} {f : Nat → Int64} (hd : M.2.2.1.lookup pc = some (.lastore, nx, tg)) (hc : h.1[a]? = some (some (.inl (1, n, .inr (.inl f))))) (hi : vp_in i n) (k : ax_go C M r nx lv st (h.1.set a (some (.inl (1, n, .inr (.inl (vp_updL f i.toNatClampNeg x))))), h.2)) : ax_go C M r pc lv (.long x :: .int i :: .ref a :: st) h := gb hd ⟨a, i, x, st, n, f, rfl, hc, hi, k⟩
theorem g_aast {a n q v : Nat} {i : Int32} {f : Nat → Option Nat} {fs : List Value} (hd : M.2.2.1.lookup pc = some (.aastore, nx, tg)) (hc : h.1[a]? = some (some (.inl (q, n, .inr (.inr (.inr (.inr f))))))) (hq : q = 3 ∨ q = 4) (hi : vp_in i n) (hv : h.1[v]? = some (some (.inr (ax_cmp q, fs))))
    (k : ax_go C M r nx lv st (h.1.set a (some (.inl (q, n, .inr (.inr (.inr (.inr (va_up f i.toNatClampNeg (some v)))))))), h.2)) : ax_go C M r pc lv (.ref v :: .int i :: .ref a :: st) h := gb hd ⟨a, i, some v, st, q, n, f, rfl, hc, hq, hi, fun w e => by cases e; exact ⟨fs, hv⟩, k⟩
theorem g_aastN {a n q : Nat} {i : Int32} {f : Nat → Option Nat} (hd : M.2.2.1.lookup pc = some (.aastore, nx, tg)) (hc : h.1[a]? = some (some (.inl (q, n, .inr (.inr (.inr (.inr f))))))) (hq : q = 3 ∨ q = 4) (hi : vp_in i n)
    (k : ax_go C M r nx lv st (h.1.set a (some (.inl (q, n, .inr (.inr (.inr (.inr (va_up f i.toNatClampNeg none))))))), h.2)) : ax_go C M r pc lv (.null :: .int i :: .ref a :: st) h := gb hd ⟨a, i, none, st, q, n, f, rfl, hc, hq, hi, (fun w e => by cases e), k⟩
theorem g_alen {a q n : Nat} {z : (Nat → Int32) ⊕ (Nat → Int64) ⊕ (Nat → UInt32) ⊕ (Nat → UInt64) ⊕ (Nat → Option Nat)} (hd : M.2.2.1.lookup pc = some (.arraylength, nx, tg)) (hc : h.1[a]? = some (some (.inl (q, n, z)))) (hq : q < 5 ∨ (q = 9 ∧ a = 0)) (k : ax_go C M r nx lv (.int (nI n) :: st) h) : ax_go C M r pc lv (.ref a :: st) h := gb hd ⟨a, st, q, n, z, rfl, hc, hq, k⟩
theorem g_newa {t : ArrayType} {n : Int32} {q : Nat} (hd : M.2.2.1.lookup pc = some (.newarray t, nx, tg)) (ht : ax_ak t = some q) (hn : ¬ n < 0) (hm : n.toNatClampNeg ≤ 1000000) (k : ax_go C M r nx lv (.ref h.1.length :: st) (h.1 ++ [some (.inl (q, n.toNatClampNeg, ax_blank q))], h.2 + n.toNatClampNeg)) : ax_go C M r pc lv (.int n :: st) h := gb hd ⟨n, st, q, rfl, ht, hn, hm, k⟩
theorem g_newq {ix : Nat} {n : Int32} {q : Nat} (hd : M.2.2.1.lookup pc = some (.anewarray ix, nx, tg)) (ht : ax_tR.lookup (ax_key M ix) = some q) (hn : ¬ n < 0) (hm : n.toNatClampNeg ≤ 1000000) (k : ax_go C M r nx lv (.ref h.1.length :: st) (h.1 ++ [some (.inl (q, n.toNatClampNeg, ax_blank q))], h.2 + n.toNatClampNeg)) : ax_go C M r pc lv (.int n :: st) h := gb hd ⟨n, st, q, rfl, ht, hn, hm, k⟩
theorem g_new {ix ci : Nat} (hd : M.2.2.1.lookup pc = some (.new ix, nx, tg)) (hn : ax_tN.lookup (ax_key M ix) = some ci) (k : ax_go C M r nx lv (.ref h.1.length :: st) (h.1 ++ [some (.inr (ci, ax_dfl ci))], h.2 + (ax_dfl ci).length)) : ax_go C M r pc lv st h := gb hd (Or.inl ⟨ci, hn, k⟩)
theorem g_thr {ix E ik is : Nat} (hd : M.2.2.1.lookup pc = some (.new ix, nx, tg)) (hx : ax_tX.lookup (ax_key M ix) = some (E, ik)) (hh : M.2.2.2.1 = []) (h1 : M.2.2.1.lookup nx = some (.dup, nx + 1, 0)) (h2 : M.2.2.1.lookup (nx + 1) = some (.ldc is, nx + 3, 0)) (h3 : ax_key M is ∈ ax_tS) (h4 : M.2.2.1.lookup (nx + 3) = some (.invokespecial ik, nx + 6, 0)) (h5 : M.2.2.1.lookup (nx + 6) = some (.athrow, nx + 7, 0)) (hr : r = (.inr E, (h.1 ++ [none], h.2 + 6))) : ax_go C M r pc lv [] h := gb hd (Or.inr ⟨E, ik, is, hx, rfl, hh, h1, h2, h3, h4, h5, hr⟩)
/-- calls: n values, the receiver among them -/
theorem g_cs {ix mi n : Nat} {v : Option Value} {h1 : ax_H} (hd : M.2.2.1.lookup pc = some (.invokestatic ix, nx, tg)) (hm : ax_tM.lookup (ax_key M ix) = some (mi, n)) (hc : C mi (st.take n).reverse h (.inl v, h1)) (hn : n ≤ st.length) (hw : ax_wsum (st.drop n) ≤ 8) (k : ax_go C M r nx lv (v.toList ++ st.drop n) h1) : ax_go C M r pc lv st h := gb hd ⟨mi, n, hm, hn, hw, Or.inl ⟨v, h1, hc, k⟩⟩
theorem g_cv {ix mi n a : Nat} {as fs : List Value} {v : Option Value} {h1 : ax_H} (hd : M.2.2.1.lookup pc = some (.invokevirtual ix, nx, tg)) (hm : ax_tM.lookup (ax_key M ix) = some (mi, n)) (ha : (st.take n).reverse = .ref a :: as) (ho : h.1[a]? = some (some (.inr (ax_rc mi, fs)))) (hc : C mi (st.take n).reverse h (.inl v, h1)) (hn : n ≤ st.length) (hw : ax_wsum (st.drop n) ≤ 8) (k : ax_go C M r nx lv (v.toList ++ st.drop n) h1) : ax_go C M r pc lv st h := gb hd ⟨⟨mi, n, a, as, fs, hm, ha, ho⟩, mi, n, hm, hn, hw, Or.inl ⟨v, h1, hc, k⟩⟩
theorem g_ci {ix mi n a : Nat} {as : List Value} {v : Option Value} {h1 : ax_H} (hd : M.2.2.1.lookup pc = some (.invokespecial ix, nx, tg)) (hm : ax_tM.lookup (ax_key M ix) = some (mi, n)) (ha : (st.take n).reverse = .ref a :: as) (hc : C mi (st.take n).reverse h (.inl v, h1)) (hn : n ≤ st.length) (hw : ax_wsum (st.drop n) ≤ 8) (k : ax_go C M r nx lv (v.toList ++ st.drop n) h1) : ax_go C M r pc lv st h := gb hd (Or.inr ⟨⟨mi, n, a, as, hm, ha⟩, mi, n, hm, hn, hw, Or.inl ⟨v, h1, hc, k⟩⟩)
theorem g_oi {ix a : Nat} (hd : M.2.2.1.lookup pc = some (.invokespecial ix, nx, tg)) (ho : ax_key M ix ∈ ax_tO) (hw : ax_wsum st ≤ 8) (k : ax_go C M r nx lv st h) : ax_go C M r pc lv (.ref a :: st) h := gb hd (Or.inl ⟨ho, a, st, rfl, hw, k⟩)
/-- a call that throws, and nobody here takes it -/
theorem g_cvx {ix mi n E a : Nat} {as fs : List Value} {h1 : ax_H} (hd : M.2.2.1.lookup pc = some (.invokevirtual ix, nx, tg)) (hm : ax_tM.lookup (ax_key M ix) = some (mi, n)) (ha : (st.take n).reverse = .ref a :: as) (ho : h.1[a]? = some (some (.inr (ax_rc mi, fs)))) (hc : C mi (st.take n).reverse h (.inr E, h1)) (hn : n ≤ st.length) (hw : ax_wsum (st.drop n) ≤ 8) (hE : E < 2) (hh : ax_hand M.1 M.2.2.2.1 pc E = none) (hr : r = (.inr E, h1)) : ax_go C M r pc lv st h := gb hd ⟨⟨mi, n, a, as, fs, hm, ha, ho⟩, mi, n, hm, hn, hw, Or.inr ⟨E, h1, hc, hE, Or.inr ⟨hh, hr⟩⟩⟩
theorem g_csx {ix mi n E : Nat} {h1 : ax_H} (hd : M.2.2.1.lookup pc = some (.invokestatic ix, nx, tg)) (hm : ax_tM.lookup (ax_key M ix) = some (mi, n)) (hc : C mi (st.take n).reverse h (.inr E, h1)) (hn : n ≤ st.length) (hw : ax_wsum (st.drop n) ≤ 8) (hE : E < 2) (hh : ax_hand M.1 M.2.2.2.1 pc E = none) (hr : r = (.inr E, h1)) : ax_go C M r pc lv st h := gb hd ⟨mi, n, hm, hn, hw, Or.inr ⟨E, h1, hc, hE, Or.inr ⟨hh, hr⟩⟩⟩
/-- a call that throws, taken here -/
theorem g_cvc {ix mi n E t a : Nat} {as fs : List Value} {h1 : ax_H} (hd : M.2.2.1.lookup pc = some (.invokevirtual ix, nx, tg)) (hm : ax_tM.lookup (ax_key M ix) = some (mi, n)) (ha : (st.take n).reverse = .ref a :: as) (ho : h.1[a]? = some (some (.inr (ax_rc mi, fs)))) (hc : C mi (st.take n).reverse h (.inr E, h1)) (hn : n ≤ st.length) (hw : ax_wsum (st.drop n) ≤ 8) (hE : E < 2) (hh : ax_hand M.1 M.2.2.2.1 pc E = some t) (k : ax_go C M r t lv [.ref (h1.1.length - 1)] h1) : ax_go C M r pc lv st h := gb hd ⟨⟨mi, n, a, as, fs, hm, ha, ho⟩, mi, n, hm, hn, hw, Or.inr ⟨E, h1, hc, hE, Or.inl ⟨t, hh, k⟩⟩⟩
/-- ends -/
theorem g_iret {x : Int32} {rt : FieldType} (hd : M.2.2.1.lookup pc = some (.ireturn, nx, tg)) (ht : M.2.1 = some rt) (hx : narrow rt (.int x) = .int x) (hr : r = (.inl (some (.int x)), h)) : ax_go C M r pc lv [.int x] h := gb hd ⟨x, rt, rfl, ht, hx, hr⟩
theorem g_lret {x : Int64} (hd : M.2.2.1.lookup pc = some (.lreturn, nx, tg)) (ht : M.2.1 = some .long) (hr : r = (.inl (some (.long x)), h)) : ax_go C M r pc lv [.long x] h := gb hd ⟨x, rfl, ht, hr⟩
theorem g_aret {v : Value} {n : String} (hd : M.2.2.1.lookup pc = some (.areturn, nx, tg)) (ht : M.2.1 = some (.object n)) (hv : ax_isA v = true) (hr : r = (.inl (some v), h)) : ax_go C M r pc lv [v] h := gb hd ⟨v, n, rfl, ht, hv, hr⟩
theorem g_vret (hd : M.2.2.1.lookup pc = some (.return_, nx, tg)) (ht : M.2.1 = none) (hr : r = (.inl none, h)) : ax_go C M r pc lv [] h := gb hd ⟨rfl, ht, hr⟩
end AxRows
end
section
/-! WHERE THE ABSTRACT CELLS LIE: cell 0 is the script, at b; cell i + 1 at base + i. -/
def ax_ad (b base : Nat) : Nat → Nat
  | 0 => b
  | i + 1 => base + i
def ax_v (b base : Nat) : Value → Value
  | .ref a => .ref (ax_ad b base a)
  | v => v
def ax_lm (b base : Nat) (lv : ax_L) : ax_L := lv.map (fun q => (q.1, ax_v b base q.2))
def ax_z (b base : Nat) (z : (Nat → Int32) ⊕ (Nat → Int64) ⊕ (Nat → UInt32) ⊕ (Nat → UInt64) ⊕ (Nat → Option Nat)) : (Nat → Int32) ⊕ (Nat → Int64) ⊕ (Nat → UInt32) ⊕ (Nat → UInt64) ⊕ (Nat → Option Nat) := match z with
  | .inl f => .inl f
  | .inr (.inl f) => .inr (.inl f)
  | .inr (.inr (.inl f)) => .inr (.inr (.inl f))
  | .inr (.inr (.inr (.inl f))) => .inr (.inr (.inr (.inl f)))
  | .inr (.inr (.inr (.inr f))) => .inr (.inr (.inr (.inr (fun j => (f j).map (ax_ad b base)))))
def ax_e (b base : Nat) (dA : Nat → ClassId) : ax_C → va_E
  | .inl (k, n, z) => .inl (dA k, n, ax_z b base z)
  | .inr (ci, fs) => .inr (ci, fs.map (ax_v b base))
theorem ax_ad_inj {b base i j : Nat} (hb : b < base) (h : ax_ad b base i = ax_ad b base j) : i = j := by
  cases i <;> cases j <;> simp [ax_ad] at h <;> omega
theorem ax_v_cat (b base : Nat) (v : Value) : (ax_v b base v).category = v.category := by cases v <;> rfl
theorem ax_lm_in {b base : Nat} {lv : ax_L} {k : Nat} {v : Value} (h : lv.lookup k = some v) : (k, ax_v b base v) ∈ ax_lm b base lv := by
  induction lv with
  | nil => simp at h
  | cons q lv ih =>
    obtain ⟨i, w⟩ := q
    by_cases hk : k = i
    · subst hk
      simp at h
      subst h
      exact List.mem_cons_self
    · rw [List.lookup_cons] at h
      rw [show (k == i) = false by simpa using hk] at h
      exact List.mem_cons_of_mem _ (ih h)
theorem ax_lm_get {b base nL k : Nat} {ls : Array Slot} {lv : ax_L} {v : Value} (hl : lv_has ls nL (ax_lm b base lv)) (h : lv.lookup k = some v) : ls[k]? = some (.val (ax_v b base v)) := hl.2.2 _ (ax_lm_in h)
theorem ax_lm_sto1 (b base i : Nat) (v : Value) (lv : ax_L) : ax_lm b base (ax_sto1 i v lv) = (i, ax_v b base v) :: (ax_lm b base lv).filter (fun q => !(q.1 == i) && !(q.1 + 1 == i && q.2.category == 2)) := by
  simp only [ax_sto1, ax_lm, List.map_cons, List.filter_map]
  congr 3
  funext q
  simp [Function.comp, ax_v_cat]
theorem ax_lm_sto2 (b base i : Nat) (v : Value) (lv : ax_L) : ax_lm b base (ax_sto2 i v lv) = (i, ax_v b base v) :: (ax_lm b base lv).filter (fun q => !(q.1 == i) && (!(q.1 == i + 1) && !(q.1 + 1 == i && q.2.category == 2))) := by
  simp only [ax_sto2, ax_lm, List.map_cons, List.filter_map]
  congr 3
  funext q
  simp [Function.comp, ax_v_cat]
theorem ax_lm_args (b base : Nat) (as : List Value) : ∀ i, ax_lm b base (lv_args i as) = lv_args i (as.map (ax_v b base)) := by
  induction as with
  | nil => intro i; rfl
  | cons v vs ih =>
    intro i
    show (i, ax_v b base v) :: ax_lm b base (lv_args _ vs) = (i, ax_v b base v) :: lv_args _ (vs.map (ax_v b base))
    rw [ih, ax_v_cat]
/-! what the tables of a method's instructions must say -/
def ax_len : Instr → Nat
  | .bipush _ => 2
  | .iload _ => 2
  | .lload _ => 2
  | .aload _ => 2
  | .istore _ => 2
  | .lstore _ => 2
  | .astore _ => 2
  | .ldc _ => 2
  | .newarray _ => 2
  | .sipush _ => 3
  | .iinc _ _ => 3
  | .ldc2_w _ => 3
  | .if_icmp _ _ => 3
  | .ifCond _ _ => 3
  | .ifnull _ => 3
  | .ifnonnull _ => 3
  | .goto _ => 3
  | .getfield _ => 3
  | .putfield _ => 3
  | .invokevirtual _ => 3
  | .invokespecial _ => 3
  | .invokestatic _ => 3
  | .new _ => 3
  | .anewarray _ => 3
  | _ => 1
def ax_sw : Instr → Bool
  | .tableswitch _ _ _ _ => true
  | .lookupswitch _ _ => true
  | _ => false
def ax_off : Instr → Option Int
  | .goto o => some o
  | .if_icmp _ o => some o
  | .ifCond _ o => some o
  | .ifnull o => some o
  | .ifnonnull o => some o
  | _ => none
/-- the last local that an instruction writes -/
def ax_top : Instr → Nat
  | .istore k => k
  | .istore_n k => k
  | .astore k => k
  | .astore_n k => k
  | .lstore k => k + 1
  | .lstore_n k => k + 1
  | .iinc k _ => k
  | _ => 0
def ax_swok (pc : Nat) : Instr → Bool
  | .tableswitch d _ _ offs => decide (0 ≤ (pc : Int) + d) && offs.toList.all (fun o => decide (0 ≤ (pc : Int) + o))
  | .lookupswitch d ps => decide (0 ≤ (pc : Int) + d) && ps.toList.all (fun q => decide (0 ≤ (pc : Int) + q.2)) && (ps.toList.zip (ps.toList.drop 1)).all (fun (a, next) => a.1 < next.1)
  | _ => true
def ax_okI (bs : ByteArray) (nL : Nat) (e : Nat × Instr × Nat × Nat) : Bool :=
  decide (decode bs e.1 = .ok (e.2.1, e.2.2.1 - e.1)) && (ax_sw e.2.1 || decide (e.2.2.1 = e.1 + ax_len e.2.1)) &&
    (match ax_off e.2.1 with | some o => decide ((e.1 : Int) + o = (e.2.2.2 : Int)) | none => true) && decide (ax_top e.2.1 < nL) && ax_swok e.1 e.2.1
theorem ax_lookup2_in {α : Type} {l : List ((Nat × Nat) × α)} {k : Nat × Nat} {x : α} (h : l.lookup k = some x) : (k, x) ∈ l := by
  induction l with
  | nil => simp at h
  | cons q l ih =>
    obtain ⟨i, w⟩ := q
    by_cases hk : k = i
    · subst hk
      simp at h
      subst h
      exact List.mem_cons_self
    · rw [List.lookup_cons, show (k == i) = false from beq_eq_false_iff_ne.mpr hk] at h
      exact List.mem_cons_of_mem _ (ih h)
theorem ax_lookup_in {α : Type} {l : List (Nat × α)} {k : Nat} {x : α} (h : l.lookup k = some x) : (k, x) ∈ l := by
  induction l with
  | nil => simp at h
  | cons q l ih =>
    obtain ⟨i, w⟩ := q
    by_cases hk : k = i
    · subst hk
      simp at h
      subst h
      exact List.mem_cons_self
    · rw [List.lookup_cons, show (k == i) = false by simpa using hk] at h
      exact List.mem_cons_of_mem _ (ih h)
/-- what an instruction's row of a good table says -/
def ax_It (bs : ByteArray) (nL pc : Nat) (i : Instr) (nx tg : Nat) : Prop :=
  decode bs pc = .ok (i, nx - pc) ∧ (ax_sw i = false → decode bs pc = .ok (i, ax_len i) ∧ nx = pc + ax_len i) ∧ (∀ o, ax_off i = some o → (pc : Int) + o = (tg : Int)) ∧ ax_top i < nL ∧ ax_swok pc i = true
theorem ax_okI_at {bs : ByteArray} {nL : Nat} {tb : List (Nat × Instr × Nat × Nat)} (hok : tb.all (ax_okI bs nL) = true) {pc nx tg : Nat} {i : Instr} (hd : tb.lookup pc = some (i, nx, tg)) : ax_It bs nL pc i nx tg := by
  have h := List.all_eq_true.mp hok _ (ax_lookup_in hd)
  simp only [ax_okI, Bool.and_eq_true, Bool.or_eq_true, decide_eq_true_eq] at h
  obtain ⟨⟨⟨⟨h1, h2⟩, h3⟩, h4⟩, h5⟩ := h
  refine ⟨h1, fun hs => ?_, fun o ho => ?_, h4, h5⟩
  · have h6 : nx = pc + ax_len i := by
      rcases h2 with h2 | h2
      · rw [hs] at h2; cases h2
      · exact h2
    refine ⟨?_, h6⟩
    rw [h1, h6, Nat.add_sub_cancel_left]
  · rw [ho] at h3
    simpa using h3
section AxSimple
variable {p : Program} {l : Launch} {e : Env} {R : Room} {s : State} {m : MethodId} {args : Array Value} {below : List Frame} {meth : Method} {c : Code} {H : Heap} {locs : List Loc} {cells slots : Nat} {Q : State → Prop} {bs : ByteArray} {nL pc nx tg b base : Nat}
/-- the locals, for a value stored -/
theorem ax_s_sound (hx : p.tables.exec = Jvm.exec) (hb : c.code = bs) {i : Instr} (hI : ax_It bs nL pc i nx tg) {lv : ax_L} {st : List Value} {h : ax_H} {s' : ax_S} (hs : ax_s i nx tg lv st h = some s') :
    s'.2.2.2 = h ∧ ∀ ls, lv_has ls nL (ax_lm b base lv) → (∀ ls', lv_has ls' nL (ax_lm b base s'.2.1) → W p l e R s m args below meth c H locs cells slots Q (F0 m s'.1 ls' (s'.2.2.1.map (ax_v b base)))) →
      W p l e R s m args below meth c H locs cells slots Q (F0 m pc ls (st.map (ax_v b base))) := by
  obtain ⟨-, hd0, ho, ht, -⟩ := hI
  cases i with
  | aconst_null =>
    obtain ⟨hd, rfl⟩ := hd0 rfl
    cases hs
    exact ⟨rfl, fun ls hl k => lv_null hx hb hd (k ls hl)⟩
  | iconst n =>
    obtain ⟨hd, rfl⟩ := hd0 rfl
    cases hs
    exact ⟨rfl, fun ls hl k => lv_iconst hx hb hd rfl (k ls hl)⟩
  | bipush n =>
    obtain ⟨hd, rfl⟩ := hd0 rfl
    cases hs
    exact ⟨rfl, fun ls hl k => lv_bipush hx hb hd rfl (k ls hl)⟩
  | sipush n =>
    obtain ⟨hd, rfl⟩ := hd0 rfl
    cases hs
    exact ⟨rfl, fun ls hl k => lv_sipush hx hb hd rfl (k ls hl)⟩
  | lconst n =>
    obtain ⟨hd, rfl⟩ := hd0 rfl
    cases hs
    exact ⟨rfl, fun ls hl k => lv_lconst hx hb hd rfl (k ls hl)⟩
  | iload k =>
    obtain ⟨hd, rfl⟩ := hd0 rfl
    simp only [ax_s, ax_load] at hs
    split at hs
    · rename_i v hv
      cases v <;> simp [ax_isI] at hs
      subst hs
      exact ⟨rfl, fun ls hl kk => lv_iload hx hb hd (ax_lm_get hl hv) (kk ls hl)⟩
    · cases hs
  | iload_n k =>
    obtain ⟨hd, rfl⟩ := hd0 rfl
    simp only [ax_s, ax_load] at hs
    split at hs
    · rename_i v hv
      cases v <;> simp [ax_isI] at hs
      subst hs
      exact ⟨rfl, fun ls hl kk => lv_iload_n hx hb hd rfl (ax_lm_get hl hv) (kk ls hl)⟩
    · cases hs
  | lload k =>
    obtain ⟨hd, rfl⟩ := hd0 rfl
    simp only [ax_s, ax_load] at hs
    split at hs
    · rename_i v hv
      cases v <;> simp [ax_isL] at hs
      subst hs
      exact ⟨rfl, fun ls hl kk => lv_lload hx hb hd (ax_lm_get hl hv) (kk ls hl)⟩
    · cases hs
  | lload_n k =>
    obtain ⟨hd, rfl⟩ := hd0 rfl
    simp only [ax_s, ax_load] at hs
    split at hs
    · rename_i v hv
      cases v <;> simp [ax_isL] at hs
      subst hs
      exact ⟨rfl, fun ls hl kk => lv_lload_n hx hb hd rfl (ax_lm_get hl hv) (kk ls hl)⟩
    · cases hs
  | aload k =>
    obtain ⟨hd, rfl⟩ := hd0 rfl
    simp only [ax_s, ax_load] at hs
    split at hs
    · rename_i v hv
      cases v <;> simp [ax_isA] at hs
      · subst hs
        exact ⟨rfl, fun ls hl kk => lv_aloadN hx hb hd (ax_lm_get hl hv) (kk ls hl)⟩
      · subst hs
        exact ⟨rfl, fun ls hl kk => lv_aload hx hb hd (ax_lm_get hl hv) (kk ls hl)⟩
    · cases hs
  | aload_n k =>
    obtain ⟨hd, rfl⟩ := hd0 rfl
    simp only [ax_s, ax_load] at hs
    split at hs
    · rename_i v hv
      cases v <;> simp [ax_isA] at hs
      · subst hs
        exact ⟨rfl, fun ls hl kk => lv_aload_nN hx hb hd rfl (ax_lm_get hl hv) (kk ls hl)⟩
      · subst hs
        exact ⟨rfl, fun ls hl kk => lv_aload_n hx hb hd rfl (ax_lm_get hl hv) (kk ls hl)⟩
    · cases hs
  | istore k =>
    obtain ⟨hd, rfl⟩ := hd0 rfl
    simp only [ax_s, ax_store1] at hs
    split at hs
    · rename_i v st1
      cases v <;> simp [ax_isI] at hs
      subst hs
      exact ⟨rfl, fun ls hl kk => lv_istore hx hb hd hl ht rfl (fun ls' h' => kk ls' (by rw [ax_lm_sto1]; exact h'))⟩
    · cases hs
  | istore_n k =>
    obtain ⟨hd, rfl⟩ := hd0 rfl
    simp only [ax_s, ax_store1] at hs
    split at hs
    · rename_i v st1
      cases v <;> simp [ax_isI] at hs
      subst hs
      exact ⟨rfl, fun ls hl kk => lv_istore_n hx hb hd rfl hl ht rfl (fun ls' h' => kk ls' (by rw [ax_lm_sto1]; exact h'))⟩
    · cases hs
  | astore k =>
    obtain ⟨hd, rfl⟩ := hd0 rfl
    simp only [ax_s, ax_store1] at hs
    split at hs
    · rename_i v st1
      cases v <;> simp [ax_isA] at hs
      · subst hs
        exact ⟨rfl, fun ls hl kk => lv_astoreN hx hb hd hl ht rfl (fun ls' h' => kk ls' (by rw [ax_lm_sto1]; exact h'))⟩
      · subst hs
        exact ⟨rfl, fun ls hl kk => lv_astore hx hb hd hl ht rfl (fun ls' h' => kk ls' (by rw [ax_lm_sto1]; exact h'))⟩
    · cases hs
  | astore_n k =>
    obtain ⟨hd, rfl⟩ := hd0 rfl
    simp only [ax_s, ax_store1] at hs
    split at hs
    · rename_i v st1
      cases v <;> simp [ax_isA] at hs
      · subst hs
        exact ⟨rfl, fun ls hl kk => lv_astore_nN hx hb hd rfl hl ht rfl (fun ls' h' => kk ls' (by rw [ax_lm_sto1]; exact h'))⟩
      · subst hs
        exact ⟨rfl, fun ls hl kk => lv_astore_n hx hb hd rfl hl ht rfl (fun ls' h' => kk ls' (by rw [ax_lm_sto1]; exact h'))⟩
    · cases hs
  | lstore k =>
    obtain ⟨hd, rfl⟩ := hd0 rfl
    simp only [ax_s, ax_store2] at hs
    split at hs
    · cases hs
      exact ⟨rfl, fun ls hl kk => lv_lstore hx hb hd hl ht rfl (fun ls' h' => kk ls' (by rw [ax_lm_sto2]; exact h'))⟩
    · cases hs
  | lstore_n k =>
    obtain ⟨hd, rfl⟩ := hd0 rfl
    simp only [ax_s, ax_store2] at hs
    split at hs
    · cases hs
      exact ⟨rfl, fun ls hl kk => lv_lstore_n hx hb hd rfl hl ht rfl (fun ls' h' => kk ls' (by rw [ax_lm_sto2]; exact h'))⟩
    · cases hs
  | iinc k n =>
    obtain ⟨hd, rfl⟩ := hd0 rfl
    simp only [ax_s, ax_iinc] at hs
    split at hs
    · rename_i x hv
      cases hs
      refine ⟨rfl, fun ls hl kk => ?_⟩
      obtain ⟨j, hj⟩ := List.getElem?_of_mem (ax_lm_in (b := b) (base := base) hv)
      exact lv_iinc hx hb hd hl hj rfl ht rfl (fun ls' h' => kk ls' (by rw [ax_lm_sto1]; exact h'))
    · cases hs
  | iadd =>
    obtain ⟨hd, rfl⟩ := hd0 rfl
    simp only [ax_s, ax_ii] at hs
    split at hs
    · cases hs
      exact ⟨rfl, fun ls hl kk => lv_iadd hx hb hd (kk ls hl)⟩
    · cases hs
  | isub =>
    obtain ⟨hd, rfl⟩ := hd0 rfl
    simp only [ax_s, ax_ii] at hs
    split at hs
    · cases hs
      exact ⟨rfl, fun ls hl kk => lv_isub hx hb hd (kk ls hl)⟩
    · cases hs
  | imul =>
    obtain ⟨hd, rfl⟩ := hd0 rfl
    simp only [ax_s, ax_ii] at hs
    split at hs
    · cases hs
      exact ⟨rfl, fun ls hl kk => lv_imul hx hb hd (kk ls hl)⟩
    · cases hs
  | iand =>
    obtain ⟨hd, rfl⟩ := hd0 rfl
    simp only [ax_s, ax_ii] at hs
    split at hs
    · cases hs
      exact ⟨rfl, fun ls hl kk => lv_iand hx hb hd (kk ls hl)⟩
    · cases hs
  | ladd =>
    obtain ⟨hd, rfl⟩ := hd0 rfl
    simp only [ax_s, ax_ll] at hs
    split at hs
    · cases hs
      exact ⟨rfl, fun ls hl kk => lv_ladd hx hb hd (kk ls hl)⟩
    · cases hs
  | lsub =>
    obtain ⟨hd, rfl⟩ := hd0 rfl
    simp only [ax_s, ax_ll] at hs
    split at hs
    · cases hs
      exact ⟨rfl, fun ls hl kk => lv_lsub hx hb hd (kk ls hl)⟩
    · cases hs
  | lmul =>
    obtain ⟨hd, rfl⟩ := hd0 rfl
    simp only [ax_s, ax_ll] at hs
    split at hs
    · cases hs
      exact ⟨rfl, fun ls hl kk => lv_lmul hx hb hd (kk ls hl)⟩
    · cases hs
  | land =>
    obtain ⟨hd, rfl⟩ := hd0 rfl
    simp only [ax_s, ax_ll] at hs
    split at hs
    · cases hs
      exact ⟨rfl, fun ls hl kk => lv_land hx hb hd (kk ls hl)⟩
    · cases hs
  | lor =>
    obtain ⟨hd, rfl⟩ := hd0 rfl
    simp only [ax_s, ax_ll] at hs
    split at hs
    · cases hs
      exact ⟨rfl, fun ls hl kk => lv_lor hx hb hd (kk ls hl)⟩
    · cases hs
  | lcmp =>
    obtain ⟨hd, rfl⟩ := hd0 rfl
    simp only [ax_s, ax_ll] at hs
    split at hs
    · cases hs
      exact ⟨rfl, fun ls hl kk => W.lcmp hx hb hd (kk ls hl)⟩
    · cases hs
  | lshl =>
    obtain ⟨hd, rfl⟩ := hd0 rfl
    simp only [ax_s, ax_lshl] at hs
    split at hs
    · cases hs
      exact ⟨rfl, fun ls hl kk => lv_lshl hx hb hd rfl (kk ls hl)⟩
    · cases hs
  | i2l =>
    obtain ⟨hd, rfl⟩ := hd0 rfl
    simp only [ax_s, ax_i1] at hs
    split at hs
    · cases hs
      exact ⟨rfl, fun ls hl kk => lv_i2l hx hb hd rfl (kk ls hl)⟩
    · cases hs
  | i2c =>
    obtain ⟨hd, rfl⟩ := hd0 rfl
    simp only [ax_s, ax_i1] at hs
    split at hs
    · cases hs
      exact ⟨rfl, fun ls hl kk => lv_i2c hx hb hd rfl (kk ls hl)⟩
    · cases hs
  | ineg =>
    obtain ⟨hd, rfl⟩ := hd0 rfl
    simp only [ax_s, ax_i1] at hs
    split at hs
    · cases hs
      exact ⟨rfl, fun ls hl kk => lv_ineg hx hb hd (kk ls hl)⟩
    · cases hs
  | lneg =>
    obtain ⟨hd, rfl⟩ := hd0 rfl
    simp only [ax_s, ax_l1] at hs
    split at hs
    · cases hs
      exact ⟨rfl, fun ls hl kk => lv_lneg hx hb hd (kk ls hl)⟩
    · cases hs
  | l2i =>
    obtain ⟨hd, rfl⟩ := hd0 rfl
    simp only [ax_s, ax_l1] at hs
    split at hs
    · cases hs
      exact ⟨rfl, fun ls hl kk => lv_l2i hx hb hd rfl (kk ls hl)⟩
    · cases hs
  | dup =>
    obtain ⟨hd, rfl⟩ := hd0 rfl
    simp only [ax_s, ax_dup] at hs
    split at hs
    · rename_i v st1
      split at hs
      · rename_i hv
        cases hs
        exact ⟨rfl, fun ls hl kk => lv_dup hx hb hd (by rw [ax_v_cat]; exact hv) (kk ls hl)⟩
      · cases hs
    · cases hs
  | goto o =>
    obtain ⟨hd, rfl⟩ := hd0 rfl
    cases hs
    exact ⟨rfl, fun ls hl kk => lv_goto hx hb hd (ho o rfl) (kk ls hl)⟩
  | _ => cases hs
end AxSimple
end
section
section AxCell
variable {p : Program} {l : Launch} {e : Env} {R : Room} {s : State} {m : MethodId} {args : Array Value} {below : List Frame} {meth : Method} {c : Code} {H : Heap} {locs : List Loc} {cells slots : Nat} {Q : State → Prop}
variable {cc : ByteArray} {pc : Nat} {ls : Array Slot} {rest : List Value} {D : va_G} {cl : List vw_C} {tys : List (ClassId × FieldType)} {a : Nat}
theorem ax_one {q : Nat × va_E} (h : va_at D cl q H) : va_P D cl [q] H := fun k x hk => by
  cases k with
  | zero => cases hk; exact h
  | succ k => simp at hk
/-- a field's link: its own class's, or a nest mate's -/
def ax_lk (own : String) (ix : Nat) (T : u_T) (k : Nat) (args : Array Value) (s : State) : Prop :=
  (Jvm.Cond.fieldLink own ix (T k).1 (T k).2.1 (T k).2.2.1).before args s = true ∨ ∃ host, (Jvm.Cond.fieldLinkNest own ix (T k).1 (T k).2.1 (T k).2.2.1 host).before args s = true
theorem ax_getR (hx : p.tables.exec = Jvm.exec) (hb : c.code = cc) {own C : String} {T : u_T} {N ci ix : Nat} (hts : ∀ w ∈ u_ws C T N, w.before args s = true) (hown : s.vm.findClass own = some m.cls) (hK : va_K D cl tys s) {fs : List Value} (hat : va_at D cl (a, .inr (ci, fs)) H) (hc : cl[ci]? = some (C, T, N)) (k : Nat) (hk : k < N) (hl : ax_lk own ix T k args s) {v : Value} (hv : fs[k]? = some v) (hdg : decode cc pc = .ok (.getfield ix, 3))
    (kk : W p l e R s m args below meth c H locs cells slots Q (F0 m (pc + 3) ls (v :: rest))) : W p l e R s m args below meth c H locs cells slots Q (F0 m pc ls (.ref a :: rest)) := by
  rcases hl with hl | ⟨host, hl⟩
  · exact va_get hx hb hts (fun _ h => h) hown hK (ax_one hat) 0 rfl hc k hk hl (fun _ h => h) hv hdg kk
  · exact va_getN hx hb hts (fun _ h => h) hown hK (ax_one hat) 0 rfl hc k hk hl (fun _ h => h) hv hdg kk
theorem ax_putR (hx : p.tables.exec = Jvm.exec) (hb : c.code = cc) {own C : String} {T : u_T} {N ci ix : Nat} (hts : ∀ w ∈ u_ws C T N, w.before args s = true) (ty0 : Nat → FieldType) (hty : ∀ k, k < N → parseFieldDescriptor (T k).2.2.1 = some (ty0 k)) (hnm : ∀ a, a < N → ∀ b, b < N → a ≠ b → (T a).2.1 ≠ (T b).2.1) (hown : s.vm.findClass own = some m.cls) (hK : va_K D cl tys s) {fs : List Value} (hat : va_at D cl (a, .inr (ci, fs)) H) (hc : cl[ci]? = some (C, T, N)) (k : Nat) (hk : k < N)
    (hl : ((T k).2.2.2 = false ∧ ax_lk own ix T k args s) ∨ ((T k).2.2.2 = true ∧ meth.name = "<init>" ∧ (T k).1 = own ∧ (Jvm.Cond.fieldLink own ix (T k).1 (T k).2.1 (T k).2.2.1).before args s = true)) {v : Value} (hn : narrow (ty0 k) v = v) (hfit : fits (ty0 k) v = true) (hlt : k < fs.length) (hdg : decode cc pc = .ok (.putfield ix, 3))
    (kk : ∀ (H1 : Heap) (i : Nat), va_at D cl (a, .inr (ci, fs.set k v)) H1 → H1.size = H.size → (∀ q : Nat, q ≠ a → H1[q]? = H[q]?) → W p l e R s m args below meth c H1 (locs ++ [⟨a, i⟩]) cells slots Q (F0 m (pc + 3) ls rest)) : W p l e R s m args below meth c H locs cells slots Q (F0 m pc ls (v :: .ref a :: rest)) := by
  have hap := va_apart (own := own) hts (fun _ h => h) ty0 hty hnm hK hc
  obtain ⟨r, h1, cell, q1, q2, q3, q4⟩ := hat
  have hr : r = (C, T, N) := Option.some.inj (h1.symm.trans hc)
  subst hr
  obtain ⟨hS, hfc, kC, hkC, hkind⟩ := hK.1 ci _ hc
  obtain ⟨cf, kf, fi, f, hi, hsl⟩ := hS k hk
  have hlay := hts _ (u_in_lay hk)
  have hst := (u_facts hfc hkC (u_lays hts (fun _ h => h) hk) hi).1
  have done : ∀ H1 : Heap, H1[a]? = some (cell.setSlot f.slot v) → va_at D cl (a, .inr (ci, fs.set k v)) H1 := by
    intro H1 e1
    rw [hsl] at e1
    exact ⟨_, hc, t_OB.to (V := updV (vp_V fs) k v) ⟨_, e1, q2, q3, t_set q4 hap hk v⟩ (fun j _ => vp_updV_set hlt v j)⟩
  have hslot : f.slot < cell.slots.size := by rw [hsl]; exact k2_hasslot (q4 k hk)
  rcases hl with ⟨hfin, hl⟩ | ⟨hfin, hin, hdecl, hl⟩
  · unfold u_lay at hlay
    rw [if_neg (by rw [hfin]; decide)] at hlay
    have h6 := u_store hfc hkC hkind hlay hi (hty k hk) hn hfit
    rcases hl with hl | ⟨host, hl⟩
    · exact W.putK hx hb (f := f) ⟨hown, hl, ⟨_, _, _, hi⟩, hst⟩ (by rw [q2]; exact h6) q1 q3 hslot rfl rfl hdg fun H' e1 e2 e3 => kk H' _ (done H' e1) e2 e3
    · exact va_WputK hx hb (f := f) hown hl hi hst (by rw [q2]; exact h6) q1 q3 hslot rfl rfl hdg fun H' e1 e2 e3 => kk H' _ (done H' e1) e2 e3
  · unfold u_lay at hlay
    rw [if_pos hfin] at hlay
    have hcf : m.cls = cf := by
      obtain ⟨_, _, c', _, _, _, -, -, hf', -, -, -, hown2, -⟩ := Cond.laysFinal_spec hlay
      have e1 : c' = cf := by have := hi.symm.trans hf'; simp at this; exact this.1.symm
      rw [hdecl] at hown2
      rw [← e1]; exact Option.some.inj (hown.symm.trans hown2)
    have h6 := u_fits hfc hkC hkind (Or.inr hlay) hi (hty k hk) hn hfit
    exact W.putFinK hx hb hown hl hi hst hcf hin (by rw [q2]; exact h6) q1 q3 hslot rfl rfl hdg fun H' e1 e2 e3 => kk H' _ (done H' e1) e2 e3
theorem ax_iastR (hx : p.tables.exec = Jvm.exec) (hb : c.code = cc) {cA : ClassId} {n : Nat} {f : Nat → Int32} (hA : ArrOfT s cA .int) (hat : va_at D cl (a, .inl (cA, n, .inl f)) H) {i x : Int32} (hin : vp_in i n) (hdg : decode cc pc = .ok (.iastore, 1))
    (kk : ∀ (H1 : Heap) (j : Nat), va_at D cl (a, .inl (cA, n, .inl (upd f i.toNatClampNeg x))) H1 → H1.size = H.size → (∀ q : Nat, q ≠ a → H1[q]? = H[q]?) → W p l e R s m args below meth c H1 (locs ++ [⟨a, j⟩]) cells slots Q (F0 m (pc + 1) ls rest)) : W p l e R s m args below meth c H locs cells slots Q (F0 m pc ls (.int x :: .int i :: .ref a :: rest)) := by
  have hcell : H[a]? = some (vp_cell cA (n, .inl f)) := hat
  refine W.iast hx hb hcell (hA n (fun j => .int (f j))) (fun q => by cases q) (by show ¬ (i < 0 ∨ (arrV _ _ _).slots.size ≤ _); rw [arrV_size]; exact hin) rfl rfl hdg fun H1 e z oq => kk H1 _ ?_ z oq
  show H1[a]? = some (vp_cell _ _)
  rw [e, vp_cell_i, vp_cell_i, arrV_store]
  congr 2
  funext q
  by_cases hq : q = i.toNatClampNeg
  · subst hq
    simp [updV, upd]
  · simp [updV, upd, hq]
theorem ax_castR (hx : p.tables.exec = Jvm.exec) (hb : c.code = cc) {cA : ClassId} {n : Nat} {f : Nat → Int32} (hA : ArrOfT s cA .char) (hat : va_at D cl (a, .inl (cA, n, .inl f)) H) {i x : Int32} (hin : vp_in i n) (hdg : decode cc pc = .ok (.castore, 1))
    (kk : ∀ (H1 : Heap) (j : Nat), va_at D cl (a, .inl (cA, n, .inl (upd f i.toNatClampNeg (vp_nar .char x)))) H1 → H1.size = H.size → (∀ q : Nat, q ≠ a → H1[q]? = H[q]?) → W p l e R s m args below meth c H1 (locs ++ [⟨a, j⟩]) cells slots Q (F0 m (pc + 1) ls rest)) : W p l e R s m args below meth c H locs cells slots Q (F0 m pc ls (.int x :: .int i :: .ref a :: rest)) := by
  have hcell : H[a]? = some (vp_cell cA (n, .inl f)) := hat
  refine W.cast hx hb hcell (hA n (fun j => .int (f j))) (fun q => by cases q) (by show ¬ (i < 0 ∨ (arrV _ _ _).slots.size ≤ _); rw [arrV_size]; exact hin) rfl rfl hdg fun H1 e z oq => kk H1 _ ?_ z oq
  show H1[a]? = some (vp_cell _ _)
  rw [e, vp_cell_i, vp_cell_i, arrV_store]
  congr 2
  funext q
  by_cases hq : q = i.toNatClampNeg
  · subst hq
    simp [updV, upd, vp_nar]
    try rfl
  · simp [updV, upd, hq]
theorem ax_lastR (hx : p.tables.exec = Jvm.exec) (hb : c.code = cc) {cA : ClassId} {n : Nat} {f : Nat → Int64} (hA : ArrOfT s cA .long) (hat : va_at D cl (a, .inl (cA, n, .inr (.inl f))) H) {i : Int32} {x : Int64} (hin : vp_in i n) (hdg : decode cc pc = .ok (.lastore, 1))
    (kk : ∀ (H1 : Heap) (j : Nat), va_at D cl (a, .inl (cA, n, .inr (.inl (vp_updL f i.toNatClampNeg x)))) H1 → H1.size = H.size → (∀ q : Nat, q ≠ a → H1[q]? = H[q]?) → W p l e R s m args below meth c H1 (locs ++ [⟨a, j⟩]) cells slots Q (F0 m (pc + 1) ls rest)) : W p l e R s m args below meth c H locs cells slots Q (F0 m pc ls (.long x :: .int i :: .ref a :: rest)) := by
  have hcell : H[a]? = some (vp_cell cA (n, .inr (.inl f))) := hat
  refine W.last hx hb hcell (hA n (fun j => .long (f j))) (fun q => by cases q) (by show ¬ (i < 0 ∨ (arrV _ _ _).slots.size ≤ _); rw [arrV_size]; exact hin) rfl rfl hdg fun H1 e z oq => kk H1 _ ?_ z oq
  show H1[a]? = some (vp_cell _ _)
  rw [e, vp_cell_l, vp_cell_l, arrV_store]
  congr 2
  funext q
  by_cases hq : q = i.toNatClampNeg
  · subst hq
    simp [updV, vp_updL]
  · simp [updV, vp_updL, hq]
theorem ax_aastR (hx : p.tables.exec = Jvm.exec) (hb : c.code = cc) {cA : ClassId} {r : vw_C} {n v ci : Nat} {vs : List Value} {f : Nat → Option Nat} (hK : va_K D cl tys s) (hRA : va_RA s cA (.object r.1)) (hat : va_at D cl (a, .inl (cA, n, .inr (.inr (.inr (.inr f))))) H) (hv : va_at D cl (v, .inr (ci, vs)) H) (hc : cl[ci]? = some r) {i : Int32} (hin : vp_in i n) (hdg : decode cc pc = .ok (.aastore, 1))
    (kk : ∀ (H1 : Heap) (j : Nat), va_at D cl (a, .inl (cA, n, .inr (.inr (.inr (.inr (va_up f i.toNatClampNeg (some v))))))) H1 → H1.size = H.size → (∀ q : Nat, q ≠ a → H1[q]? = H[q]?) → W p l e R s m args below meth c H1 (locs ++ [⟨a, j⟩]) cells slots Q (F0 m (pc + 1) ls rest)) : W p l e R s m args below meth c H locs cells slots Q (F0 m pc ls (.ref v :: .int i :: .ref a :: rest)) := by
  have hcell : H[a]? = some (vp_cell cA (n, .inr (.inr (.inr (.inr f))))) := hat
  have hlt : i.toNatClampNeg < n := Nat.not_le.mp fun q => hin (Or.inr q)
  have h0 : ¬ i < 0 := fun q => hin (Or.inl q)
  obtain ⟨r', hr', cellV, g1, g2, g3, -⟩ := hv
  have hcls := (hK.1 ci r hc).2
  obtain ⟨kA, comp, k1, k2, k3, -⟩ := hRA
  have hcomp : comp = D.1 ci := Option.some.inj (k3.symm.trans hcls.1)
  subst hcomp
  obtain ⟨kC, hkC, -⟩ := hcls.2
  refine W.aast hx hb hcell (fun q h => by cases h) (fun h => by cases h) k1 k2 rfl hkC ⟨h0, by show _ < (arrV _ _ _).slots.size; rw [arrV_size]; exact hlt⟩ g1 (fun q h => by rw [g3] at h; cases h) (by rw [g2]; exact hkC) (by rw [g2]; exact va_assign hcls) rfl rfl hdg fun H1 e z oq => kk H1 _ ?_ z oq
  show H1[a]? = some (vp_cell _ _)
  rw [e, vp_cell_q, vp_cell_q, arrV_store]
  congr 2
  funext q
  by_cases hq : q = i.toNatClampNeg
  · subst hq
    simp [updV, va_up, va_rf]
  · simp [updV, va_up, hq]
theorem ax_aastNR (hx : p.tables.exec = Jvm.exec) (hb : c.code = cc) {cA : ClassId} {C : String} {n : Nat} {f : Nat → Option Nat} (hA : ArrOfT s cA (.object C)) (hat : va_at D cl (a, .inl (cA, n, .inr (.inr (.inr (.inr f))))) H) {i : Int32} (hin : vp_in i n) (hdg : decode cc pc = .ok (.aastore, 1))
    (kk : ∀ (H1 : Heap) (j : Nat), va_at D cl (a, .inl (cA, n, .inr (.inr (.inr (.inr (va_up f i.toNatClampNeg none)))))) H1 → H1.size = H.size → (∀ q : Nat, q ≠ a → H1[q]? = H[q]?) → W p l e R s m args below meth c H1 (locs ++ [⟨a, j⟩]) cells slots Q (F0 m (pc + 1) ls rest)) : W p l e R s m args below meth c H locs cells slots Q (F0 m pc ls (.null :: .int i :: .ref a :: rest)) := by
  have hcell : H[a]? = some (vp_cell cA (n, .inr (.inr (.inr (.inr f))))) := hat
  refine va_WaastN (C := C) hx hb hcell (hA n (fun j => va_rf (f j))) (fun h => by cases h) (by show ¬ (i < 0 ∨ (arrV _ _ _).slots.size ≤ _); rw [arrV_size]; exact hin) rfl rfl hdg fun H1 e z oq => kk H1 _ ?_ z oq
  show H1[a]? = some (vp_cell _ _)
  rw [e, vp_cell_q, vp_cell_q, arrV_store]
  congr 2
  funext q
  by_cases hq : q = i.toNatClampNeg
  · subst hq
    simp [updV, va_up, va_rf]
  · simp [updV, va_up, hq]
theorem ax_newR (hx : p.tables.exec = Jvm.exec) (hb : c.code = cc) {own C : String} {T : u_T} {N ci ix : Nat} (hts : ∀ w ∈ u_ws C T N, w.before args s = true) (ty : Nat → FieldType) (hty : ∀ k, k < N → parseFieldDescriptor (T k).2.2.1 = some (ty k)) (hown : s.vm.findClass own = some m.cls) (hcl : (Jvm.Cond.classLink own ix C).before args s = true) (hinst : (Jvm.Cond.instantiable C N).before args s = true) (hini : (Jvm.Cond.initialized C).before args s = true)
    (hK : va_K D cl tys s) (hc : cl[ci]? = some (C, T, N)) {fs : List Value} (hfs : ∀ j, j < N → defaultValue (ty j) = vp_V fs j) (hcells : cells + 1 ≤ R.cells) (hslots : slots + N ≤ R.slots) (hdg : decode cc pc = .ok (.new ix, 3))
    (kk : ∀ H1 : Heap, va_at D cl (H.size, .inr (ci, fs)) H1 → H1.size = H.size + 1 → (∀ q : Nat, q < H.size → H1[q]? = H[q]?) → W p l e R s m args below meth c H1 locs (cells + 1) (slots + N) Q (F0 m (pc + 3) ls (.ref H.size :: rest))) : W p l e R s m args below meth c H locs cells slots Q (F0 m pc ls rest) := by
  have hKn := hK.1 ci _ hc
  refine W.newcK hx hb hown hcl hinst hini rfl hdg hcells hslots hKn.2.1 rfl fun H1 kC hkC e1 z1 o1 => kk H1 ?_ z1 o1
  exact ⟨_, hc, (u_born ty hts (fun _ h => h) hKn hkC e1 hty).to hfs⟩
theorem ax_newaR (hx : p.tables.exec = Jvm.exec) (hb : c.code = cc) {t : ArrayType} (harr : (Jvm.Cond.arrayClass (newarray.typeOf t)).before args s = true) {cA : ClassId} (hname : s.vm.findClass ("[" ++ (newarray.typeOf t).toString) = some cA) {n : Int32} {z : vp_A} (hz : vp_cell cA z = arrV cA n.toNatClampNeg (fun _ => defaultValue (newarray.typeOf t))) (hn : ¬ n < 0) (hbytes : n.toNatClampNeg * componentBytes (newarray.typeOf t) ≤ 536870912) (hcells : cells + 1 ≤ R.cells) (hslots : slots + n.toNatClampNeg ≤ R.slots) (hdg : decode cc pc = .ok (.newarray t, 2))
    (kk : ∀ H1 : Heap, va_at D cl (H.size, .inl (cA, z)) H1 → H1.size = H.size + 1 → (∀ q : Nat, q < H.size → H1[q]? = H[q]?) → W p l e R s m args below meth c H1 locs (cells + 1) (slots + n.toNatClampNeg) Q (F0 m (pc + 2) ls (.ref H.size :: rest))) : W p l e R s m args below meth c H locs cells slots Q (F0 m pc ls (.int n :: rest)) := by
  refine va_newaK hx hb harr rfl hdg rfl hn rfl hbytes hcells hslots rfl fun H1 cB e1 z1 o1 hAr hNm => ?_
  cases hname.symm.trans hNm
  refine kk H1 ?_ z1 o1
  show H1[H.size]? = some (vp_cell _ _)
  rw [hz]
  exact e1
theorem ax_newqR (hx : p.tables.exec = Jvm.exec) (hb : c.code = cc) {own C : String} {ix : Nat} (hown : s.vm.findClass own = some m.cls) (hcl : (Jvm.Cond.classLink own ix C).before args s = true) (hov : (Jvm.Cond.arrayOver (.object C)).before args s = true) {cA : ClassId} (hname : s.vm.findClass ("[" ++ (FieldType.object C).toString) = some cA) {n : Int32} (hn : ¬ n < 0) (hbytes : n.toNatClampNeg * 4 ≤ 536870912) (hcells : cells + 1 ≤ R.cells) (hslots : slots + n.toNatClampNeg ≤ R.slots) (hdg : decode cc pc = .ok (.anewarray ix, 3))
    (kk : ∀ H1 : Heap, va_at D cl (H.size, .inl (cA, n.toNatClampNeg, .inr (.inr (.inr (.inr (fun _ => none)))))) H1 → H1.size = H.size + 1 → (∀ q : Nat, q < H.size → H1[q]? = H[q]?) → W p l e R s m args below meth c H1 locs (cells + 1) (slots + n.toNatClampNeg) Q (F0 m (pc + 3) ls (.ref H.size :: rest))) : W p l e R s m args below meth c H locs cells slots Q (F0 m pc ls (.int n :: rest)) := by
  refine W.anew hx hb hown hcl hov rfl hdg rfl hn hbytes hcells hslots fun cB kA comp f1 f2 f3 f4 => ?_
  cases hname.symm.trans f1
  refine kk _ ?_ (by rw [Array.size_push]) (fun q hq => by rw [Array.getElem?_push, if_neg (Nat.ne_of_lt hq)])
  show (H.push _)[H.size]? = some (vp_cell _ _)
  rw [Array.getElem?_push_size, vp_cell_q, ← arrV_new]
  rfl
end AxCell
end
section
section AxRep
variable (D : va_G) (dA : Nat → ClassId) (b base : Nat)
/-- what lies in the machine's heap for a cell -/
def ax_at (s : State) (i : Nat) (c : Option ax_C) (H : Heap) : Prop := match c with
  | none => ∃ ce : Cell, H[ax_ad b base i]? = some ce ∧ ce.vm = .none
  | some (.inl (9, n, .inl xs)) => va_X (ax_ad b base i) n xs s H
  | some x => va_at D classes (ax_ad b base i, ax_e b base dA x) H
/-- the whole heap from base on, and the script -/
def ax_rep (s : State) (h : ax_H) (H : Heap) : Prop :=
  (∃ n xs, h.1[0]? = some (some (.inl (9, n, .inl xs)))) ∧ H.size + 1 = base + h.1.length ∧ ∀ i c, h.1[i]? = some c → ax_at D dA b base s i c H
end AxRep
section AxRep2
variable {D : va_G} {dA : Nat → ClassId} {b base : Nat}
theorem ax_at_kept {s : State} {i : Nat} {c : Option ax_C} {H H1 : Heap} (h : ax_at D dA b base s i c H) (hq : H1[ax_ad b base i]? = H[ax_ad b base i]?) : ax_at D dA b base s i c H1 := by
  unfold ax_at at h ⊢
  split
  · obtain ⟨ce, h1, h2⟩ := h
    exact ⟨ce, hq.trans h1, h2⟩
  · exact va_X.kept h hq
  · rename_i x hx
    split at h
    · rename_i e; cases e
    · rename_i n xs e
      exact absurd (Option.some.inj e) (hx n xs)
    · rename_i y hy e
      cases e
      exact va_at.kept h hq
theorem ax_at_moved {u U : State} (hvm : u.vm.Alike U.vm) {i : Nat} {c : Option ax_C} {H : Heap} (h : ax_at D dA b base u i c H) : ax_at D dA b base U i c H := by
  unfold ax_at at h ⊢
  split
  · exact h
  · exact va_X.moved hvm h
  · rename_i x hx
    split at h
    · rename_i e; cases e
    · rename_i n xs e
      exact absurd (Option.some.inj e) (hx n xs)
    · rename_i y hy e
      cases e
      exact h
theorem ax_rep_moved {u U : State} (hvm : u.vm.Alike U.vm) {h : ax_H} {H : Heap} (q : ax_rep D dA b base u h H) : ax_rep D dA b base U h H := ⟨q.1, q.2.1, fun i c hi => ax_at_moved hvm (q.2.2 i c hi)⟩
theorem ax_rep_pos {s : State} {h : ax_H} {H : Heap} (q : ax_rep D dA b base s h H) : 0 < h.1.length := by
  obtain ⟨⟨n, xs, h0⟩, -⟩ := q
  exact (List.getElem?_eq_some_iff.mp h0).1
theorem ax_rep_top {s : State} {h : ax_H} {H : Heap} (q : ax_rep D dA b base s h H) : ax_ad b base h.1.length = H.size := by
  have h1 := ax_rep_pos q
  have h2 := q.2.1
  cases hn : h.1.length with
  | zero => omega
  | succ k => simp only [ax_ad]; omega
theorem ax_rep_set (hb : b < base) {s : State} {h : ax_H} {H H1 : Heap} (q : ax_rep D dA b base s h H) {i u : Nat} {c0 c1 : Option ax_C} (hi : h.1[i]? = some c0) (h9 : ∀ n xs, c0 ≠ some (.inl (9, n, .inl xs))) (hc : ax_at D dA b base s i c1 H1) (hz : H1.size = H.size) (ho : ∀ q : Nat, q ≠ ax_ad b base i → H1[q]? = H[q]?) : ax_rep D dA b base s (h.1.set i c1, u) H1 := by
  obtain ⟨⟨n, xs, h0⟩, h1, h2⟩ := q
  have hl := (List.getElem?_eq_some_iff.mp hi).1
  have hne : i ≠ 0 := by
    intro e
    subst e
    rw [h0] at hi
    exact h9 n xs (Option.some.inj hi).symm
  refine ⟨⟨n, xs, ?_⟩, ?_, fun j c hj => ?_⟩
  · show (h.1.set i c1)[0]? = _
    rw [List.getElem?_set_ne hne]
    exact h0
  · show _ = base + (h.1.set i c1).length
    rw [hz, List.length_set]
    exact h1
  · by_cases hji : j = i
    · subst hji
      have : (h.1.set j c1)[j]? = some c1 := List.getElem?_set_self hl
      cases this.symm.trans hj
      exact hc
    · have : (h.1.set i c1)[j]? = h.1[j]? := List.getElem?_set_ne (Ne.symm hji)
      exact ax_at_kept (h2 j c (this.symm.trans hj)) (ho _ (fun z => hji (ax_ad_inj hb z)))
theorem ax_at_lt (hb : b < base) {s : State} {h : ax_H} {H : Heap} (q : ax_rep D dA b base s h H) {i : Nat} {c : Option ax_C} (hi : h.1[i]? = some c) : ax_ad b base i < H.size := by
  obtain ⟨h0, h1, h2⟩ := q
  have hl := (List.getElem?_eq_some_iff.mp hi).1
  cases i with
  | zero =>
    obtain ⟨n, xs, h0⟩ := h0
    cases h0.symm.trans hi
    obtain ⟨scr, g1, -⟩ := h2 0 _ h0
    exact (Array.getElem?_eq_some_iff.mp g1).1
  | succ k => simp only [ax_ad]; omega
theorem ax_rep_push (hb : b < base) {s : State} {h : ax_H} {H H1 : Heap} (q : ax_rep D dA b base s h H) {u : Nat} {c1 : Option ax_C} (hc : ax_at D dA b base s h.1.length c1 H1) (hz : H1.size = H.size + 1) (ho : ∀ q : Nat, q < H.size → H1[q]? = H[q]?) : ax_rep D dA b base s (h.1 ++ [c1], u) H1 := by
  have hpos := ax_rep_pos q
  have hlt := fun {i : Nat} {c : Option ax_C} (hi : h.1[i]? = some c) => ax_at_lt hb q hi
  obtain ⟨⟨n, xs, h0⟩, h1, h2⟩ := q
  refine ⟨⟨n, xs, ?_⟩, ?_, fun j c hj => ?_⟩
  · show (h.1 ++ [c1])[0]? = _
    rw [List.getElem?_append_left hpos]
    exact h0
  · show _ = base + (h.1 ++ [c1]).length
    rw [List.length_append, List.length_singleton]
    omega
  · by_cases hl : j < h.1.length
    · have e : h.1[j]? = some c := by rw [← List.getElem?_append_left (l₂ := [c1]) hl]; exact hj
      exact ax_at_kept (h2 j c e) (ho _ (hlt e))
    · have hj' : (h.1 ++ [c1])[j]? = some c := hj
      rw [List.getElem?_append_right (by omega)] at hj'
      have hz : j - h.1.length < 1 := (List.getElem?_eq_some_iff.mp hj').1
      have hj0 : j = h.1.length := by omega
      subst hj0
      rw [Nat.sub_self] at hj'
      cases hj'
      exact hc
end AxRep2
end
section
def ax_tys (dA : Nat → ClassId) : List (ClassId × FieldType) := [(dA 0, .int), (dA 1, .long), (dA 2, .char), (dA 3, .object "MakingLimits$Offer"), (dA 4, .object "MakingLimits$Grade")]
section AxEnd
variable (D : va_G) (dA : Nat → ClassId) (b base : Nat)
/-- how a method has ended, for a run that began with the cells h0 -/
def ax_end (s : State) (h0 : ax_H) (r : ax_R) (o : Outcome) (t : State) : Prop :=
  (match r.1 with
    | .inl v => o = .returned (v.map (ax_v b base))
    | .inr E => 1 < r.2.1.length ∧ ∃ ce : Cell, o = .threw (ax_ad b base (r.2.1.length - 1)) ∧ t.heap[ax_ad b base (r.2.1.length - 1)]? = some ce ∧ ce.vm = .none ∧ s.vm.findClass (ax_en E) = some ce.cls) ∧
  ax_rep D dA b base s r.2 t.heap ∧ s.WarmedH t.vm ∧ ∃ L : List Loc, s.sameButNew ({ t with vm := s.vm } : State) L (r.2.1.length - h0.1.length) (r.2.2 - h0.2) ∧ ∀ q ∈ L, base ≤ q.base
def ax_Q (below : List Frame) (s : State) (h0 : ax_H) (r : ax_R) : State → Prop := fun t => ∃ o, t.status = .running ∧ Ended t below o ∧ ax_end D dA b base s h0 r o t
/-- what must hold of a place in a method's walk -/
def ax_P (p : Program) (l : Launch) (e : Env) (R : Room) (s : State) (m : MethodId) (args : Array Value) (below : List Frame) (meth : Method) (c : Code) (nL : Nat) (h0 : ax_H) (r : ax_R) (pc : Nat) (lv : ax_L) (st : List Value) (h : ax_H) : Prop :=
  h.1.length ≤ r.2.1.length ∧ h.2 ≤ r.2.2 ∧ (h0.1.length ≤ h.1.length → h0.2 ≤ h.2 → ∀ (H : Heap) (locs : List Loc) (ls : Array Slot), lv_has ls nL (ax_lm b base lv) → ax_rep D dA b base s h H → (∀ q ∈ locs, base ≤ q.base) →
    W p l e R s m args below meth c H locs (h.1.length - h0.1.length) (h.2 - h0.2) (ax_Q D dA b base below s h0 r) (F0 m pc ls (st.map (ax_v b base))))
end AxEnd
section AxWalk
variable {D : va_G} {dA : Nat → ClassId} {b base : Nat} {p : Program} {l : Launch} {e : Env} {R : Room} {s : State} {m : MethodId} {args : Array Value} {below : List Frame} {meth : Method} {c : Code} {nL : Nat} {bs : ByteArray} {h0 : ax_H} {r : ax_R}
/-- nothing of the heap changes -/
theorem ax_P_same {pc pc' : Nat} {lv lv' : ax_L} {st st' : List Value} {h : ax_H} (k : ax_P D dA b base p l e R s m args below meth c nL h0 r pc' lv' st' h)
    (row : ∀ (H : Heap) (locs : List Loc) (cells slots : Nat) (Q : State → Prop) (ls : Array Slot), lv_has ls nL (ax_lm b base lv) → ax_rep D dA b base s h H → (∀ ls', lv_has ls' nL (ax_lm b base lv') → W p l e R s m args below meth c H locs cells slots Q (F0 m pc' ls' (st'.map (ax_v b base)))) → W p l e R s m args below meth c H locs cells slots Q (F0 m pc ls (st.map (ax_v b base)))) :
    ax_P D dA b base p l e R s m args below meth c nL h0 r pc lv st h :=
  ⟨k.1, k.2.1, fun g1 g2 H locs ls hl hr hq => row H locs _ _ _ ls hl hr (fun ls' hl' => k.2.2 g1 g2 H locs ls' hl' hr hq)⟩
/-- a cell changes -/
theorem ax_P_set (hbb : b < base) {pc pc' : Nat} {lv : ax_L} {st st' : List Value} {h : ax_H} {i : Nat} {c0 c1 : Option ax_C} (hi : h.1[i]? = some c0) (h9 : ∀ n xs, c0 ≠ some (.inl (9, n, .inl xs))) (k : ax_P D dA b base p l e R s m args below meth c nL h0 r pc' lv st' (h.1.set i c1, h.2))
    (row : ∀ (H : Heap) (locs : List Loc) (cells slots : Nat) (Q : State → Prop) (ls : Array Slot), lv_has ls nL (ax_lm b base lv) → ax_rep D dA b base s h H →
      (∀ (H1 : Heap) (j : Nat), ax_at D dA b base s i c1 H1 → H1.size = H.size → (∀ q : Nat, q ≠ ax_ad b base i → H1[q]? = H[q]?) → W p l e R s m args below meth c H1 (locs ++ [⟨ax_ad b base i, j⟩]) cells slots Q (F0 m pc' ls (st'.map (ax_v b base)))) → W p l e R s m args below meth c H locs cells slots Q (F0 m pc ls (st.map (ax_v b base)))) :
    ax_P D dA b base p l e R s m args below meth c nL h0 r pc lv st h := by
  have hlen : (h.1.set i c1).length = h.1.length := List.length_set
  refine ⟨hlen ▸ k.1, k.2.1, fun g1 g2 H locs ls hl hr hq => row H locs _ _ _ ls hl hr (fun H1 j ha hz ho => ?_)⟩
  have hne : i ≠ 0 := by
    intro z
    subst z
    obtain ⟨⟨n, xs, q0⟩, -⟩ := hr
    rw [q0] at hi
    exact h9 n xs (Option.some.inj hi).symm
  have hbase : base ≤ ax_ad b base i := by
    cases i with
    | zero => exact absurd rfl hne
    | succ i => simp only [ax_ad]; omega
  have := k.2.2 (by rw [hlen]; exact g1) g2 H1 (locs ++ [⟨ax_ad b base i, j⟩]) ls hl (ax_rep_set hbb hr hi h9 ha hz ho) (fun q hq1 => by
    rcases List.mem_append.mp hq1 with q1 | q1
    · exact hq q q1
    · rw [List.mem_singleton.mp q1]
      exact hbase)
  rw [hlen] at this
  exact this
/-- a cell is made, of n slots -/
theorem ax_P_push (hbb : b < base) (hRc : r.2.1.length - h0.1.length ≤ R.cells) (hRs : r.2.2 - h0.2 ≤ R.slots) {pc pc' : Nat} {lv : ax_L} {st st' : List Value} {h : ax_H} {n : Nat} {c1 : Option ax_C} (k : ax_P D dA b base p l e R s m args below meth c nL h0 r pc' lv (.ref h.1.length :: st') (h.1 ++ [c1], h.2 + n))
    (row : ∀ (H : Heap) (locs : List Loc) (cells slots : Nat) (Q : State → Prop) (ls : Array Slot), lv_has ls nL (ax_lm b base lv) → ax_rep D dA b base s h H → cells + 1 ≤ R.cells → slots + n ≤ R.slots →
      (∀ H1 : Heap, ax_at D dA b base s h.1.length c1 H1 → H1.size = H.size + 1 → (∀ q : Nat, q < H.size → H1[q]? = H[q]?) → W p l e R s m args below meth c H1 locs (cells + 1) (slots + n) Q (F0 m pc' ls (.ref (ax_ad b base h.1.length) :: st'.map (ax_v b base)))) → W p l e R s m args below meth c H locs cells slots Q (F0 m pc ls (st.map (ax_v b base)))) :
    ax_P D dA b base p l e R s m args below meth c nL h0 r pc lv st h := by
  have hlen : (h.1 ++ [c1]).length = h.1.length + 1 := by simp
  have k1 : h.1.length + 1 ≤ r.2.1.length := hlen ▸ k.1
  have k2 : h.2 + n ≤ r.2.2 := k.2.1
  refine ⟨by omega, by omega, fun g1 g2 H locs ls hl hr hq => row H locs _ _ _ ls hl hr (by omega) (by omega) (fun H1 ha hz ho => ?_)⟩
  have q := k.2.2 (by show h0.1.length ≤ (h.1 ++ [c1]).length; omega) (by show h0.2 ≤ h.2 + n; omega) H1 locs ls hl (ax_rep_push hbb hr ha hz ho) hq
  have e1 : (h.1 ++ [c1]).length - h0.1.length = h.1.length - h0.1.length + 1 := by omega
  have e2 : h.2 + n - h0.2 = h.2 - h0.2 + n := by omega
  have q' : W p l e R s m args below meth c H1 locs ((h.1 ++ [c1]).length - h0.1.length) (h.2 + n - h0.2) (ax_Q D dA b base below s h0 r) (F0 m pc' ls (.ref (ax_ad b base h.1.length) :: st'.map (ax_v b base))) := q
  rw [e1, e2] at q'
  exact q'
end AxWalk
end
section
section AxB
variable {D : va_G} {dA : Nat → ClassId} {b base : Nat} {p : Program} {l : Launch} {e : Env} {R : Room} {s : State} {m : MethodId} {args : Array Value} {below : List Frame} {meth : Method} {c : Code} {nL : Nat} {bs : ByteArray} {h0 : ax_H} {r : ax_R} {M : ax_M}
theorem ax_v_rf (b base : Nat) (o : Option Nat) : ax_v b base (va_rf o) = va_rf (o.map (ax_ad b base)) := by cases o <;> rfl
theorem ax_narrow {b base : Nat} {ty : FieldType} {v : Value} (h : narrow ty v = v) : narrow ty (ax_v b base v) = ax_v b base v := by
  cases v <;> first | exact h | (cases ty <;> rfl)
theorem ax_fits {b base : Nat} {ty : FieldType} {v : Value} (h : fits ty v = true) : fits ty (ax_v b base v) = true := by
  cases v <;> first | exact h | (cases ty <;> first | exact h | cases h)
theorem ax_if2_sound (hx : p.tables.exec = Jvm.exec) (hbs : c.code = bs) {cd : ClassFile.Cond} {o : Int} {pc nx tg : Nat} (hI : ax_It bs nL pc (.if_icmp cd o) nx tg) {lv : ax_L} {st : List Value} {h : ax_H} {x y : Int32} (k1 : ax_cnd cd x y → ax_P D dA b base p l e R s m args below meth c nL h0 r tg lv st h) (k2 : ¬ ax_cnd cd x y → ax_P D dA b base p l e R s m args below meth c nL h0 r nx lv st h) :
    ax_P D dA b base p l e R s m args below meth c nL h0 r pc lv (.int y :: .int x :: st) h := by
  obtain ⟨-, hd0, ho, -, -⟩ := hI
  obtain ⟨hd, rfl⟩ := hd0 rfl
  have ht := ho o rfl
  by_cases hc : ax_cnd cd x y
  · refine ax_P_same (k1 hc) (fun H locs cells slots Q ls hl hr kk => ?_)
    cases cd with
    | eq => exact lv_icmp_eq hx hbs hd ht (fun _ => kk ls hl) (fun q => absurd hc q)
    | ne => exact lv_icmp_ne hx hbs hd ht (fun _ => kk ls hl) (fun q => absurd q hc)
    | lt => exact lv_icmp_lt hx hbs hd ht (fun _ => kk ls hl) (fun q => absurd hc q)
    | ge => exact lv_icmp_ge hx hbs hd ht (fun _ => kk ls hl) (fun q => absurd hc q)
    | gt => exact lv_icmp_gt hx hbs hd ht (fun _ => kk ls hl) (fun q => absurd hc q)
    | le => exact lv_icmp_le hx hbs hd ht (fun _ => kk ls hl) (fun q => absurd hc q)
  · refine ax_P_same (k2 hc) (fun H locs cells slots Q ls hl hr kk => ?_)
    cases cd with
    | eq => exact lv_icmp_eq hx hbs hd ht (fun q => absurd q hc) (fun _ => kk ls hl)
    | ne => exact lv_icmp_ne hx hbs hd ht (fun q => absurd q hc) (fun _ => kk ls hl)
    | lt => exact lv_icmp_lt hx hbs hd ht (fun q => absurd q hc) (fun _ => kk ls hl)
    | ge => exact lv_icmp_ge hx hbs hd ht (fun q => absurd q hc) (fun _ => kk ls hl)
    | gt => exact lv_icmp_gt hx hbs hd ht (fun q => absurd q hc) (fun _ => kk ls hl)
    | le => exact lv_icmp_le hx hbs hd ht (fun q => absurd q hc) (fun _ => kk ls hl)
theorem ax_if1_sound (hx : p.tables.exec = Jvm.exec) (hbs : c.code = bs) {cd : ClassFile.Cond} {o : Int} {pc nx tg : Nat} (hI : ax_It bs nL pc (.ifCond cd o) nx tg) {lv : ax_L} {st : List Value} {h : ax_H} {x : Int32} (k1 : ax_cnd cd x 0 → ax_P D dA b base p l e R s m args below meth c nL h0 r tg lv st h) (k2 : ¬ ax_cnd cd x 0 → ax_P D dA b base p l e R s m args below meth c nL h0 r nx lv st h) :
    ax_P D dA b base p l e R s m args below meth c nL h0 r pc lv (.int x :: st) h := by
  obtain ⟨-, hd0, ho, -, -⟩ := hI
  obtain ⟨hd, rfl⟩ := hd0 rfl
  have ht := ho o rfl
  by_cases hc : ax_cnd cd x 0
  · refine ax_P_same (k1 hc) (fun H locs cells slots Q ls hl hr kk => ?_)
    cases cd with
    | eq => exact lv_if_eq hx hbs hd ht (fun _ => kk ls hl) (fun q => absurd hc q)
    | ne => exact lv_if_ne hx hbs hd ht (fun _ => kk ls hl) (fun q => absurd q hc)
    | lt => exact lv_if_lt hx hbs hd ht (fun _ => kk ls hl) (fun q => absurd hc q)
    | ge => exact lv_if_ge hx hbs hd ht (fun _ => kk ls hl) (fun q => absurd hc q)
    | gt => exact lv_if_gt hx hbs hd ht (fun _ => kk ls hl) (fun q => absurd hc q)
    | le => exact lv_if_le hx hbs hd ht (fun _ => kk ls hl) (fun q => absurd hc q)
  · refine ax_P_same (k2 hc) (fun H locs cells slots Q ls hl hr kk => ?_)
    cases cd with
    | eq => exact lv_if_eq hx hbs hd ht (fun q => absurd q hc) (fun _ => kk ls hl)
    | ne => exact lv_if_ne hx hbs hd ht (fun q => absurd q hc) (fun _ => kk ls hl)
    | lt => exact lv_if_lt hx hbs hd ht (fun q => absurd q hc) (fun _ => kk ls hl)
    | ge => exact lv_if_ge hx hbs hd ht (fun q => absurd q hc) (fun _ => kk ls hl)
    | gt => exact lv_if_gt hx hbs hd ht (fun q => absurd q hc) (fun _ => kk ls hl)
    | le => exact lv_if_le hx hbs hd ht (fun q => absurd q hc) (fun _ => kk ls hl)
theorem ax_to_eq {pc : Nat} {o : Int} (h : 0 ≤ (pc : Int) + o) : (pc : Int) + o = ((ax_to pc o : Nat) : Int) := by
  unfold ax_to
  omega
theorem ax_lsw_nn {pc : Nat} {x d : Int} (hd : 0 ≤ (pc : Int) + d) : ∀ ps : List (Int × Int), ps.all (fun q => decide (0 ≤ (pc : Int) + q.2)) = true → 0 ≤ (pc : Int) + Op.lookupswitch.offset ps d x := by
  intro ps
  induction ps with
  | nil => intro _; exact hd
  | cons q ps ih =>
    intro h
    simp only [List.all_cons, Bool.and_eq_true, decide_eq_true_eq] at h
    obtain ⟨k, o⟩ := q
    rw [Op.lookupswitch.offset_cons]
    split
    · exact h.1
    · exact ih h.2
/-- the instructions that neither call nor end nor throw -/
def ax_mid : Instr → Bool
  | .invokestatic _ => false
  | .invokevirtual _ => false
  | .invokespecial _ => false
  | .new _ => false
  | .ireturn => false
  | .lreturn => false
  | .areturn => false
  | .return_ => false
  | _ => true
theorem ax_kind {k : Nat} (hK : va_K D classes (ax_tys dA) s) {ty : FieldType} (hk : (ax_tys dA)[k]? = some (dA k, ty)) : ArrOfT s (dA k) ty ∧ va_RA s (dA k) ty := hK.2 k _ hk
theorem ax_arr_at {i k n : Nat} {z : (Nat → Int32) ⊕ (Nat → Int64) ⊕ (Nat → UInt32) ⊕ (Nat → UInt64) ⊕ (Nat → Option Nat)} {H : Heap} (h : ax_at D dA b base s i (some (.inl (k, n, z))) H) (hk : k ≠ 9) : va_at D classes (ax_ad b base i, .inl (dA k, n, ax_z b base z)) H := by
  unfold ax_at at h
  split at h
  · rename_i e; cases e
  · rename_i e; cases e; exact absurd rfl hk
  · rename_i y hy e; cases e; exact h
theorem ax_arr_of {i k n : Nat} {z : (Nat → Int32) ⊕ (Nat → Int64) ⊕ (Nat → UInt32) ⊕ (Nat → UInt64) ⊕ (Nat → Option Nat)} {H : Heap} (h : va_at D classes (ax_ad b base i, .inl (dA k, n, ax_z b base z)) H) (hk : k ≠ 9) : ax_at D dA b base s i (some (.inl (k, n, z))) H := by
  unfold ax_at
  split
  · rename_i e; cases e
  · rename_i e; cases e; exact absurd rfl hk
  · rename_i y hy e; cases e; exact h
theorem ax_mid_sound (hbb : b < base) (hx : p.tables.exec = Jvm.exec) (hbs : c.code = bs) (hown : s.vm.findClass (ax_cn M.1) = some m.cls) (hini : M.2.2.2.2 = true → meth.name = "<init>") (hG : ∀ w ∈ lw_tbl, ax_gw w = true → w.before args s = true) (hK : va_K D classes (ax_tys dA) s) (hRc : r.2.1.length - h0.1.length ≤ R.cells) (hRs : r.2.2 - h0.2 ≤ R.slots)
    {C : Nat → List Value → ax_H → ax_R → Prop} {i : Instr} (hm : ax_mid i = true) {pc nx tg : Nat} (hI : ax_It bs nL pc i nx tg) {lv : ax_L} {st : List Value} {h : ax_H} (hb : ax_b C M i pc nx tg lv st h r (ax_P D dA b base p l e R s m args below meth c nL h0 r)) :
    ax_P D dA b base p l e R s m args below meth c nL h0 r pc lv st h := by
  have hW : ∀ {w : Jvm.Cond}, ax_w w → w.before args s = true := fun hw => hG _ hw.1 hw.2
  have hI' := hI
  obtain ⟨hdd, hd0, ho, ht, hsw⟩ := hI
  cases i with
  | ldc ix =>
    obtain ⟨hd, rfl⟩ := hd0 rfl
    obtain ⟨v, hv, k⟩ := hb
    exact ax_P_same k (fun H locs cells slots Q ls hl hr kk => lv_ldc hx hbs hown (hW (ax_tI_ok _ (ax_lookup2_in hv))) hd (kk ls hl))
  | ldc2_w ix =>
    obtain ⟨hd, rfl⟩ := hd0 rfl
    obtain ⟨v, hv, k⟩ := hb
    exact ax_P_same k (fun H locs cells slots Q ls hl hr kk => lv_ldc2 hx hbs hown (hW (ax_tL_ok _ (ax_lookup2_in hv))) hd (kk ls hl))
  | idiv =>
    obtain ⟨hd, rfl⟩ := hd0 rfl
    obtain ⟨x, y, st', rfl, hy, k⟩ := hb
    exact ax_P_same k (fun H locs cells slots Q ls hl hr kk => lv_idiv hx hbs hd hy (kk ls hl))
  | ldiv =>
    obtain ⟨hd, rfl⟩ := hd0 rfl
    obtain ⟨x, y, st', rfl, hy, k⟩ := hb
    exact ax_P_same k (fun H locs cells slots Q ls hl hr kk => lv_ldiv hx hbs hd hy (kk ls hl))
  | lrem =>
    obtain ⟨hd, rfl⟩ := hd0 rfl
    obtain ⟨x, y, st', rfl, hy, k⟩ := hb
    exact ax_P_same k (fun H locs cells slots Q ls hl hr kk => lv_lrem hx hbs hd hy (kk ls hl))
  | if_icmp cd o =>
    obtain ⟨x, y, st', rfl, k1, k2⟩ := hb
    exact ax_if2_sound hx hbs hI' k1 k2
  | ifCond cd o =>
    obtain ⟨x, st', rfl, k1, k2⟩ := hb
    exact ax_if1_sound hx hbs hI' k1 k2
  | ifnull o =>
    obtain ⟨hd, rfl⟩ := hd0 rfl
    obtain ⟨v, st', rfl, k⟩ := hb
    rcases k with ⟨rfl, k⟩ | ⟨⟨a, rfl⟩, k⟩
    · exact ax_P_same k (fun H locs cells slots Q ls hl hr kk => lv_ifnullN hx hbs hd (ho o rfl) (kk ls hl))
    · exact ax_P_same k (fun H locs cells slots Q ls hl hr kk => lv_ifnull hx hbs hd (kk ls hl))
  | ifnonnull o =>
    obtain ⟨hd, rfl⟩ := hd0 rfl
    obtain ⟨v, st', rfl, k⟩ := hb
    rcases k with ⟨rfl, k⟩ | ⟨⟨a, rfl⟩, k⟩
    · exact ax_P_same k (fun H locs cells slots Q ls hl hr kk => lv_ifnonnullN hx hbs hd (kk ls hl))
    · exact ax_P_same k (fun H locs cells slots Q ls hl hr kk => lv_ifnonnull hx hbs hd (ho o rfl) (kk ls hl))
  | tableswitch d lo hi offs =>
    obtain ⟨x, st', t, rfl, hts, k⟩ := hb
    simp only [ax_swok, Bool.and_eq_true, decide_eq_true_eq, List.all_eq_true] at hsw
    unfold ax_tsw at hts
    split at hts
    · rename_i hout
      cases hts
      exact ax_P_same k (fun H locs cells slots Q ls hl hr kk => lv_tableOut hx hbs hdd hout (ax_to_eq hsw.1) (kk ls hl))
    · rename_i hinn
      obtain ⟨o, ho1, rfl⟩ := Option.map_eq_some_iff.mp hts
      have hmem : o ∈ offs.toList := Array.mem_toList_iff.mpr (Array.mem_of_getElem? ho1)
      exact ax_P_same k (fun H locs cells slots Q ls hl hr kk => lv_tableIn hx hbs hdd (fun q => hinn (Or.inl q)) (fun q => hinn (Or.inr q)) ho1 (ax_to_eq (hsw.2 o hmem)) (kk ls hl))
  | lookupswitch d ps =>
    obtain ⟨x, st', rfl, k⟩ := hb
    simp only [ax_swok, Bool.and_eq_true, decide_eq_true_eq] at hsw
    exact ax_P_same k (fun H locs cells slots Q ls hl hr kk => lv_lookup hx hbs hdd hsw.2 rfl (ax_to_eq (ax_lsw_nn hsw.1.1 _ hsw.1.2)) (kk ls hl))
  | getfield ix =>
    obtain ⟨hd, rfl⟩ := hd0 rfl
    obtain ⟨a, st', ci, k, fs, v, rfl, hf, hc, hv, kk0⟩ := hb
    obtain ⟨C0, T, N, hcl, hkN, hlk⟩ := ax_tF_ok _ (ax_lookup2_in hf)
    refine ax_P_same kk0 (fun H locs cells slots Q ls hl hr kk => ?_)
    exact ax_getR hx hbs (fun w hw => hW (ax_cls_ok ci _ hcl w hw)) hown hK (hr.2.2 a _ hc) hcl k hkN (hlk.imp (fun q => hW q) (fun ⟨host, q⟩ => ⟨host, hW q⟩)) (by rw [List.getElem?_map, hv]; rfl) hd (kk ls hl)
  | putfield ix =>
    obtain ⟨hd, rfl⟩ := hd0 rfl
    obtain ⟨a, v, st', ci, k, fs, rfl, hf, hc, hlt, hfin, hn, hfit, kk0⟩ := hb
    obtain ⟨C0, T, N, hcl, hkN, hlk⟩ := ax_tF_ok _ (ax_lookup2_in hf)
    refine ax_P_set hbb hc (fun n xs q => by cases q) kk0 (fun H locs cells slots Q ls hl hr kk => ?_)
    refine ax_putR hx hbs (fun w hw => hW (ax_cls_ok ci _ hcl w hw)) (ax_ty ci) (ax_ty_ok ci _ hcl) (ax_nm_ok ci _ hcl) hown hK (hr.2.2 a _ hc) hcl k hkN ?_ (ax_narrow hn) (ax_fits hfit) (by rw [List.length_map]; exact hlt) hd (fun H1 j ha hz hq => kk H1 j ?_ hz hq)
    · rcases hfin with hfin | ⟨hi1, hi2⟩
      · by_cases hF : (T k).2.2.2 = true
        · exact absurd (ax_fin_ok ci _ hcl k hkN ▸ hfin) (by rw [hF]; decide)
        · exact Or.inl ⟨by simpa using hF, hlk.imp (fun q => hW q) (fun ⟨host, q⟩ => ⟨host, hW q⟩)⟩
      · by_cases hF : (T k).2.2.2 = true
        · subst hi2
          exact Or.inr ⟨hF, hini hi1, ax_own_ok _ _ hcl k hkN, hW (ax_tFown_ok _ (ax_lookup2_in hf) rfl hcl)⟩
        · exact Or.inl ⟨by simpa using hF, hlk.imp (fun q => hW q) (fun ⟨host, q⟩ => ⟨host, hW q⟩)⟩
    · show va_at D classes (ax_ad b base a, .inr (ci, (fs.set k v).map (ax_v b base))) H1
      rw [List.map_set]
      exact ha
  | iaload =>
    obtain ⟨hd, rfl⟩ := hd0 rfl
    obtain ⟨a, i, st', k, n, f, rfl, hc, hk, hin, kk0⟩ := hb
    refine ax_P_same kk0 (fun H locs cells slots Q ls hl hr kk => ?_)
    rcases hk with rfl | rfl
    · exact va_iald hx hbs hK (ax_one (ax_arr_at (hr.2.2 a _ hc) (by decide))) 0 0 rfl rfl hin hd (kk ls hl)
    · obtain ⟨scr, h1, h2, h3, h4, h5⟩ : va_X (ax_ad b base a) n f s H := hr.2.2 a _ hc
      have hlt : i.toNatClampNeg < n := Nat.not_le.mp fun q => hin (Or.inr q)
      exact W.iald (v := .int (f i.toNatClampNeg)) hx hbs h1 h2 h3 (by rw [h4]; exact hin) (h5 _ hlt) rfl rfl hd (kk ls hl)
  | caload =>
    obtain ⟨hd, rfl⟩ := hd0 rfl
    obtain ⟨a, i, st', n, f, rfl, hc, hin, kk0⟩ := hb
    exact ax_P_same kk0 (fun H locs cells slots Q ls hl hr kk => va_cald hx hbs hK (ax_one (ax_arr_at (hr.2.2 a _ hc) (by decide))) 0 2 rfl rfl hin hd (kk ls hl))
  | laload =>
    obtain ⟨hd, rfl⟩ := hd0 rfl
    obtain ⟨a, i, st', n, f, rfl, hc, hin, kk0⟩ := hb
    exact ax_P_same kk0 (fun H locs cells slots Q ls hl hr kk => va_lald hx hbs hK (ax_one (ax_arr_at (hr.2.2 a _ hc) (by decide))) 0 1 rfl rfl hin hd (kk ls hl))
  | aaload =>
    obtain ⟨hd, rfl⟩ := hd0 rfl
    obtain ⟨a, i, st', k, n, f, rfl, hc, hk, hin, kk0⟩ := hb
    refine ax_P_same kk0 (fun H locs cells slots Q ls hl hr kk => ?_)
    have kk1 := kk ls hl
    rw [List.map_cons, ax_v_rf] at kk1
    rcases hk with rfl | rfl
    · exact va_aldq hx hbs hK (ax_one (ax_arr_at (hr.2.2 a _ hc) (by decide))) 0 3 rfl rfl hin hd kk1
    · exact va_aldq hx hbs hK (ax_one (ax_arr_at (hr.2.2 a _ hc) (by decide))) 0 4 rfl rfl hin hd kk1
  | iastore =>
    obtain ⟨hd, rfl⟩ := hd0 rfl
    obtain ⟨a, i, x, st', n, f, rfl, hc, hin, kk0⟩ := hb
    refine ax_P_set hbb hc (fun n xs q => by cases q) kk0 (fun H locs cells slots Q ls hl hr kk => ?_)
    exact ax_iastR (D := D) (cl := classes) hx hbs (ax_kind hK (k := 0) rfl).1 (hr.2.2 a _ hc) hin hd (fun H1 j ha hz hq => kk H1 j ha hz hq)
  | castore =>
    obtain ⟨hd, rfl⟩ := hd0 rfl
    obtain ⟨a, i, x, st', n, f, rfl, hc, hin, kk0⟩ := hb
    refine ax_P_set hbb hc (fun n xs q => by cases q) kk0 (fun H locs cells slots Q ls hl hr kk => ?_)
    exact ax_castR (D := D) (cl := classes) hx hbs (ax_kind hK (k := 2) rfl).1 (hr.2.2 a _ hc) hin hd (fun H1 j ha hz hq => kk H1 j ha hz hq)
  | lastore =>
    obtain ⟨hd, rfl⟩ := hd0 rfl
    obtain ⟨a, i, x, st', n, f, rfl, hc, hin, kk0⟩ := hb
    refine ax_P_set hbb hc (fun n xs q => by cases q) kk0 (fun H locs cells slots Q ls hl hr kk => ?_)
    exact ax_lastR (D := D) (cl := classes) hx hbs (ax_kind hK (k := 1) rfl).1 (hr.2.2 a _ hc) hin hd (fun H1 j ha hz hq => kk H1 j ha hz hq)
  | aastore =>
    obtain ⟨hd, rfl⟩ := hd0 rfl
    obtain ⟨a, i, o, st', k, n, f, rfl, hc, hk, hin, hv, kk0⟩ := hb
    refine ax_P_set hbb hc (fun n xs q => by cases q) kk0 (fun H locs cells slots Q ls hl hr kk => ?_)
    have e1 : ∀ v : Option Nat, (fun j => (va_up f i.toNatClampNeg v j).map (ax_ad b base)) = va_up (fun j => (f j).map (ax_ad b base)) i.toNatClampNeg (v.map (ax_ad b base)) := by
      intro v
      funext j
      unfold va_up
      split <;> rfl
    cases o with
    | none =>
      rcases hk with rfl | rfl
      · refine ax_aastNR (D := D) (cl := classes) hx hbs (ax_kind hK (k := 3) rfl).1 (hr.2.2 a _ hc) hin hd (fun H1 j ha hz hq => kk H1 j ?_ hz hq)
        show va_at D classes (_, .inl (dA 3, n, .inr (.inr (.inr (.inr (fun j => (va_up f i.toNatClampNeg none j).map (ax_ad b base))))))) H1
        rw [e1]
        exact ha
      · refine ax_aastNR (D := D) (cl := classes) hx hbs (ax_kind hK (k := 4) rfl).1 (hr.2.2 a _ hc) hin hd (fun H1 j ha hz hq => kk H1 j ?_ hz hq)
        show va_at D classes (_, .inl (dA 4, n, .inr (.inr (.inr (.inr (fun j => (va_up f i.toNatClampNeg none j).map (ax_ad b base))))))) H1
        rw [e1]
        exact ha
    | some v =>
      obtain ⟨fs, hv⟩ := hv v rfl
      rcases hk with rfl | rfl
      · refine ax_aastR (D := D) (cl := classes) hx hbs hK (ax_kind hK (k := 3) rfl).2 (hr.2.2 a _ hc) (hr.2.2 v _ hv) rfl hin hd (fun H1 j ha hz hq => kk H1 j ?_ hz hq)
        show va_at D classes (_, .inl (dA 3, n, .inr (.inr (.inr (.inr (fun j => (va_up f i.toNatClampNeg (some v) j).map (ax_ad b base))))))) H1
        rw [e1]
        exact ha
      · refine ax_aastR (D := D) (cl := classes) hx hbs hK (ax_kind hK (k := 4) rfl).2 (hr.2.2 a _ hc) (hr.2.2 v _ hv) rfl hin hd (fun H1 j ha hz hq => kk H1 j ?_ hz hq)
        show va_at D classes (_, .inl (dA 4, n, .inr (.inr (.inr (.inr (fun j => (va_up f i.toNatClampNeg (some v) j).map (ax_ad b base))))))) H1
        rw [e1]
        exact ha
  | arraylength =>
    obtain ⟨hd, rfl⟩ := hd0 rfl
    obtain ⟨a, st', k, n, z, rfl, hc, hk, kk0⟩ := hb
    refine ax_P_same kk0 (fun H locs cells slots Q ls hl hr kk => ?_)
    have hcase : k = 0 ∨ k = 1 ∨ k = 2 ∨ k = 3 ∨ k = 4 ∨ (k = 9 ∧ a = 0) := by
      rcases hk with hk | hk
      · rcases k with _ | _ | _ | _ | _ | k
        · exact Or.inl rfl
        · exact Or.inr (Or.inl rfl)
        · exact Or.inr (Or.inr (Or.inl rfl))
        · exact Or.inr (Or.inr (Or.inr (Or.inl rfl)))
        · exact Or.inr (Or.inr (Or.inr (Or.inr (Or.inl rfl))))
        · exact absurd hk (by omega)
      · exact Or.inr (Or.inr (Or.inr (Or.inr (Or.inr hk))))
    rcases hcase with rfl | rfl | rfl | rfl | rfl | ⟨rfl, rfl⟩
    · exact va_alen hx hbs hK (ax_one (ax_arr_at (hr.2.2 a _ hc) (by decide))) 0 0 rfl rfl rfl hd (kk ls hl)
    · exact va_alen hx hbs hK (ax_one (ax_arr_at (hr.2.2 a _ hc) (by decide))) 0 1 rfl rfl rfl hd (kk ls hl)
    · exact va_alen hx hbs hK (ax_one (ax_arr_at (hr.2.2 a _ hc) (by decide))) 0 2 rfl rfl rfl hd (kk ls hl)
    · exact va_alen hx hbs hK (ax_one (ax_arr_at (hr.2.2 a _ hc) (by decide))) 0 3 rfl rfl rfl hd (kk ls hl)
    · exact va_alen hx hbs hK (ax_one (ax_arr_at (hr.2.2 a _ hc) (by decide))) 0 4 rfl rfl rfl hd (kk ls hl)
    · obtain ⟨⟨n0, xs0, h00⟩, -⟩ := id hr
      cases h00.symm.trans hc
      obtain ⟨scr, h1, h2, h3, h4, h5⟩ : va_X (ax_ad b base 0) n xs0 s H := hr.2.2 0 _ h00
      exact W.alen (n := nI n) hx hbs h1 h2 (by rw [h4]; rfl) rfl rfl hd (kk ls hl)
  | newarray t =>
    obtain ⟨hd, rfl⟩ := hd0 rfl
    obtain ⟨n, st', k, rfl, hk, hn, hm1, kk0⟩ := hb
    refine ax_P_push hbb hRc hRs kk0 (fun H locs cells slots Q ls hl hr hc1 hs1 kk => ?_)
    have htop := ax_rep_top hr
    rw [htop] at kk
    cases t <;> simp [ax_ak] at hk <;> subst hk
    · exact ax_newaR (D := D) (cl := classes) hx hbs (t := .char) (hW ax_arC) (ax_kind hK (k := 2) rfl).2 (z := (n.toNatClampNeg, .inl (fun _ => 0))) rfl hn (by show n.toNatClampNeg * 2 ≤ _; omega) hc1 hs1 hd (fun H1 ha hz hq => kk H1 (ax_arr_of (by rw [htop]; exact ha) (by decide)) hz hq)
    · exact ax_newaR (D := D) (cl := classes) hx hbs (t := .int) (hW ax_arI) (ax_kind hK (k := 0) rfl).2 (z := (n.toNatClampNeg, .inl (fun _ => 0))) rfl hn (by show n.toNatClampNeg * 4 ≤ _; omega) hc1 hs1 hd (fun H1 ha hz hq => kk H1 (ax_arr_of (by rw [htop]; exact ha) (by decide)) hz hq)
    · exact ax_newaR (D := D) (cl := classes) hx hbs (t := .long) (hW ax_arJ) (ax_kind hK (k := 1) rfl).2 (z := (n.toNatClampNeg, .inr (.inl (fun _ => 0)))) rfl hn (by show n.toNatClampNeg * 8 ≤ _; omega) hc1 hs1 hd (fun H1 ha hz hq => kk H1 (ax_arr_of (by rw [htop]; exact ha) (by decide)) hz hq)
  | anewarray ix =>
    obtain ⟨hd, rfl⟩ := hd0 rfl
    obtain ⟨n, st', k, rfl, hk, hn, hm1, kk0⟩ := hb
    refine ax_P_push hbb hRc hRs kk0 (fun H locs cells slots Q ls hl hr hc1 hs1 kk => ?_)
    have htop := ax_rep_top hr
    rw [htop] at kk
    rcases ax_tR_ok _ (ax_lookup2_in hk) with ⟨rfl, hk1⟩ | ⟨rfl, hk1⟩
    · obtain ⟨kA, comp, -, -, -, hnm⟩ := (ax_kind hK (k := 3) rfl).2
      exact ax_newqR (D := D) (cl := classes) hx hbs hown (hW hk1) (hW ax_ovO) hnm hn (by omega) hc1 hs1 hd (fun H1 ha hz hq => kk H1 (ax_arr_of (by rw [htop]; exact ha) (by decide)) hz hq)
    · obtain ⟨kA, comp, -, -, -, hnm⟩ := (ax_kind hK (k := 4) rfl).2
      exact ax_newqR (D := D) (cl := classes) hx hbs hown (hW hk1) (hW ax_ovG) hnm hn (by omega) hc1 hs1 hd (fun H1 ha hz hq => kk H1 (ax_arr_of (by rw [htop]; exact ha) (by decide)) hz hq)
  | _ => first | exact hb.elim | cases hm
end AxB
end
section
set_option maxRecDepth 20000
theorem ax_ix {w : Jvm.Cond} (i : Nat) (h : lw_tbl[i]? = some w) : w ∈ lw_tbl := List.mem_of_getElem? h
theorem cd_ML_init : ax_w (.code ⟨"MakingLimits", "<init>", "()V"⟩ prog_1_method_1_code 1 none) := ⟨ax_ix 47 rfl, rfl⟩
theorem cd_ML_unit : ax_w (.code ⟨"MakingLimits", "unit", "(I)Z"⟩ prog_1_method_2_code 2 (some .boolean)) := ⟨ax_ix 190 rfl, rfl⟩
theorem cd_ML_maker : ax_w (.code ⟨"MakingLimits", "maker", "()I"⟩ prog_1_method_3_code 4 (some .int)) := ⟨ax_ix 198 rfl, rfl⟩
theorem cd_ML_thing : ax_w (.code ⟨"MakingLimits", "thing", "(IJI)I"⟩ prog_1_method_4_code 5 (some .int)) := ⟨ax_ix 344 rfl, rfl⟩
theorem cd_ML_at : ax_w (.code ⟨"MakingLimits", "at", "(IJJ)Z"⟩ prog_1_method_5_code 6 (some .boolean)) := ⟨ax_ix 442 rfl, rfl⟩
theorem cd_ML_run : ax_w (.code ⟨"MakingLimits", "run", "(II)I"⟩ prog_1_method_6_code 3 (some .int)) := ⟨ax_ix 461 rfl, rfl⟩
theorem cd_ML_remark : ax_w (.code ⟨"MakingLimits", "remark", "(II)I"⟩ prog_1_method_7_code 4 (some .int)) := ⟨ax_ix 494 rfl, rfl⟩
theorem cd_ML_least : ax_w (.code ⟨"MakingLimits", "least", "(I)I"⟩ prog_1_method_8_code 2 (some .int)) := ⟨ax_ix 514 rfl, rfl⟩
theorem cd_ML_price : ax_w (.code ⟨"MakingLimits", "price", "(IIJ)J"⟩ prog_1_method_9_code 6 (some .long)) := ⟨ax_ix 531 rfl, rfl⟩
theorem cd_ML_share : ax_w (.code ⟨"MakingLimits", "share", "(JJI)J"⟩ prog_1_method_10_code 8 (some .long)) := ⟨ax_ix 549 rfl, rfl⟩
theorem cd_ML_balance : ax_w (.code ⟨"MakingLimits", "balance", "(III)J"⟩ prog_1_method_11_code 8 (some .long)) := ⟨ax_ix 558 rfl, rfl⟩
theorem cd_ML_quote : ax_w (.code ⟨"MakingLimits", "quote", "(IJ)I"⟩ prog_1_method_12_code 4 (some .int)) := ⟨ax_ix 588 rfl, rfl⟩
theorem cd_ML_copper : ax_w (.code ⟨"MakingLimits", "copper", "(IIJJ)Z"⟩ prog_1_method_13_code 7 (some .boolean)) := ⟨ax_ix 599 rfl, rfl⟩
theorem cd_ML_best : ax_w (.code ⟨"MakingLimits", "best", "(J)I"⟩ prog_1_method_14_code 9 (some .int)) := ⟨ax_ix 613 rfl, rfl⟩
theorem cd_ML_order : ax_w (.code ⟨"MakingLimits", "order", "(IJJ)I"⟩ prog_1_method_15_code 12 (some .int)) := ⟨ax_ix 620 rfl, rfl⟩
theorem cd_ML_history : ax_w (.code ⟨"MakingLimits", "history", "(II)I"⟩ prog_1_method_16_code 3 (some .int)) := ⟨ax_ix 640 rfl, rfl⟩
theorem cd_ML_clear : ax_w (.code ⟨"MakingLimits", "clear", "()V"⟩ prog_1_method_17_code 2 none) := ⟨ax_ix 315 rfl, rfl⟩
theorem cd_ML_keepOffer : ax_w (.code ⟨"MakingLimits", "keepOffer", "(ILMakingLimits$Offer;)V"⟩ prog_1_method_18_code 3 none) := ⟨ax_ix 304 rfl, rfl⟩
theorem cd_ML_offerOf : ax_w (.code ⟨"MakingLimits", "offerOf", "(I)LMakingLimits$Offer;"⟩ prog_1_method_19_code 3 (some (.object "MakingLimits$Offer"))) := ⟨ax_ix 469 rfl, rfl⟩
theorem cd_ML_gradeOf : ax_w (.code ⟨"MakingLimits", "gradeOf", "(II)LMakingLimits$Grade;"⟩ prog_1_method_20_code 4 (some (.object "MakingLimits$Grade"))) := ⟨ax_ix 465 rfl, rfl⟩
theorem cd_ML_checkQuantity : ax_w (.code ⟨"MakingLimits", "checkQuantity", "(J)V"⟩ prog_1_method_21_code 2 none) := ⟨ax_ix 534 rfl, rfl⟩
theorem cd_ML_isNoLayer : ax_w (.code ⟨"MakingLimits", "isNoLayer", "(I)Z"⟩ prog_1_method_22_code 1 (some .boolean)) := ⟨ax_ix 347 rfl, rfl⟩
theorem cd_ML_commonDivisor : ax_w (.code ⟨"MakingLimits", "commonDivisor", "(JJ)J"⟩ prog_1_method_23_code 11 (some .long)) := ⟨ax_ix 580 rfl, rfl⟩
theorem cd_Bd_init : ax_w (.code ⟨"MakingLimits$Board", "<init>", "()V"⟩ prog_2_method_1_code 1 none) := ⟨ax_ix 74 rfl, rfl⟩
theorem cd_Bd_add : ax_w (.code ⟨"MakingLimits$Board", "add", "(III)I"⟩ prog_2_method_2_code 4 (some .int)) := ⟨ax_ix 435 rfl, rfl⟩
theorem cd_Bd_hasNo : ax_w (.code ⟨"MakingLimits$Board", "hasNo", "(I)Z"⟩ prog_2_method_3_code 2 (some .boolean)) := ⟨ax_ix 446 rfl, rfl⟩
theorem cd_Bd_move : ax_w (.code ⟨"MakingLimits$Board", "move", "(III)Z"⟩ prog_2_method_4_code 5 (some .boolean)) := ⟨ax_ix 453 rfl, rfl⟩
theorem cd_Bd_excess : ax_w (.code ⟨"MakingLimits$Board", "excess", "(ILMakingLimits$Grade;)I"⟩ prog_2_method_5_code 3 (some .int)) := ⟨ax_ix 483 rfl, rfl⟩
theorem cd_Bd_isMadeBy : ax_w (.code ⟨"MakingLimits$Board", "isMadeBy", "(LMakingLimits$Grade;)Z"⟩ prog_2_method_6_code 3 (some .boolean)) := ⟨ax_ix 523 rfl, rfl⟩
theorem cd_Bd_part : ax_w (.code ⟨"MakingLimits$Board", "part", "(II)I"⟩ prog_2_method_7_code 3 (some .int)) := ⟨ax_ix 507 rfl, rfl⟩
theorem cd_Bd_forget : ax_w (.code ⟨"MakingLimits$Board", "forget", "()V"⟩ prog_2_method_8_code 1 none) := ⟨ax_ix 319 rfl, rfl⟩
theorem cd_Ce_init : ax_w (.code ⟨"MakingLimits$Cells", "<init>", "()V"⟩ prog_3_method_1_code 1 none) := ⟨ax_ix 150 rfl, rfl⟩
theorem cd_Ce_isNoCell : ax_w (.code ⟨"MakingLimits$Cells", "isNoCell", "(I)Z"⟩ prog_3_method_2_code 1 (some .boolean)) := ⟨ax_ix 561 rfl, rfl⟩
theorem cd_Ce_tell : ax_w (.code ⟨"MakingLimits$Cells", "tell", "(IIII)Z"⟩ prog_3_method_3_code 7 (some .boolean)) := ⟨ax_ix 606 rfl, rfl⟩
theorem cd_Ce_aboveMean : ax_w (.code ⟨"MakingLimits$Cells", "aboveMean", "(II)J"⟩ prog_3_method_4_code 6 (some .long)) := ⟨ax_ix 566 rfl, rfl⟩
theorem cd_Ce_units : ax_w (.code ⟨"MakingLimits$Cells", "units", "(II)J"⟩ prog_3_method_5_code 5 (some .long)) := ⟨ax_ix 570 rfl, rfl⟩
theorem cd_Ce_forget : ax_w (.code ⟨"MakingLimits$Cells", "forget", "()V"⟩ prog_3_method_6_code 1 none) := ⟨ax_ix 335 rfl, rfl⟩
theorem cd_Gr_init : ax_w (.code ⟨"MakingLimits$Grade", "<init>", "()V"⟩ prog_4_method_1_code 1 none) := ⟨ax_ix 241 rfl, rfl⟩
theorem cd_Gr_setLimit : ax_w (.code ⟨"MakingLimits$Grade", "setLimit", "(II)V"⟩ prog_4_method_2_code 3 none) := ⟨ax_ix 275 rfl, rfl⟩
theorem cd_Gr_addStep : ax_w (.code ⟨"MakingLimits$Grade", "addStep", "(II)V"⟩ prog_4_method_3_code 4 none) := ⟨ax_ix 284 rfl, rfl⟩
theorem cd_Gr_setDays : ax_w (.code ⟨"MakingLimits$Grade", "setDays", "(I)V"⟩ prog_4_method_4_code 2 none) := ⟨ax_ix 292 rfl, rfl⟩
theorem cd_Gr_excess : ax_w (.code ⟨"MakingLimits$Grade", "excess", "(II)I"⟩ prog_4_method_5_code 4 (some .int)) := ⟨ax_ix 487 rfl, rfl⟩
theorem cd_Gr_priceOf : ax_w (.code ⟨"MakingLimits$Grade", "priceOf", "(J)J"⟩ prog_4_method_6_code 8 (some .long)) := ⟨ax_ix 539 rfl, rfl⟩
theorem cd_Of_init : ax_w (.code ⟨"MakingLimits$Offer", "<init>", "()V"⟩ prog_5_method_1_code 1 none) := ⟨ax_ix 222 rfl, rfl⟩
theorem cd_Of_add : ax_w (.code ⟨"MakingLimits$Offer", "add", "(LMakingLimits$Grade;)Z"⟩ prog_5_method_2_code 2 (some .boolean)) := ⟨ax_ix 296 rfl, rfl⟩
theorem cd_Of_gradeAt : ax_w (.code ⟨"MakingLimits$Offer", "gradeAt", "(I)LMakingLimits$Grade;"⟩ prog_5_method_3_code 2 (some (.object "MakingLimits$Grade"))) := ⟨ax_ix 474 rfl, rfl⟩
theorem cd_Of_leastFor : ax_w (.code ⟨"MakingLimits$Offer", "leastFor", "(LMakingLimits$Board;)I"⟩ prog_5_method_4_code 4 (some .int)) := ⟨ax_ix 518 rfl, rfl⟩
theorem cd_Or_init : ax_w (.code ⟨"MakingLimits$Orders", "<init>", "()V"⟩ prog_6_method_1_code 1 none) := ⟨ax_ix 137 rfl, rfl⟩
theorem cd_Or_add : ax_w (.code ⟨"MakingLimits$Orders", "add", "(IIIIJI)I"⟩ prog_6_method_2_code 9 (some .int)) := ⟨ax_ix 632 rfl, rfl⟩
theorem cd_Or_hasNo : ax_w (.code ⟨"MakingLimits$Orders", "hasNo", "(I)Z"⟩ prog_6_method_3_code 2 (some .boolean)) := ⟨ax_ix 644 rfl, rfl⟩
theorem cd_Or_part : ax_w (.code ⟨"MakingLimits$Orders", "part", "(II)I"⟩ prog_6_method_4_code 3 (some .int)) := ⟨ax_ix 649 rfl, rfl⟩
theorem cd_Or_forget : ax_w (.code ⟨"MakingLimits$Orders", "forget", "()V"⟩ prog_6_method_5_code 1 none) := ⟨ax_ix 331 rfl, rfl⟩
theorem cd_Qu_init : ax_w (.code ⟨"MakingLimits$Quotes", "<init>", "()V"⟩ prog_7_method_1_code 1 none) := ⟨ax_ix 116 rfl, rfl⟩
theorem cd_Qu_add : ax_w (.code ⟨"MakingLimits$Quotes", "add", "(ILMakingLimits$Offer;J)I"⟩ prog_7_method_2_code 5 (some .int)) := ⟨ax_ix 592 rfl, rfl⟩
theorem cd_Qu_latest : ax_w (.code ⟨"MakingLimits$Quotes", "latest", "(IJ)I"⟩ prog_7_method_3_code 5 (some .int)) := ⟨ax_ix 624 rfl, rfl⟩
theorem cd_Qu_offerAt : ax_w (.code ⟨"MakingLimits$Quotes", "offerAt", "(I)LMakingLimits$Offer;"⟩ prog_7_method_4_code 2 (some (.object "MakingLimits$Offer"))) := ⟨ax_ix 628 rfl, rfl⟩
theorem cd_Qu_forget : ax_w (.code ⟨"MakingLimits$Quotes", "forget", "()V"⟩ prog_7_method_5_code 1 none) := ⟨ax_ix 327 rfl, rfl⟩
theorem cd_Re_init : ax_w (.code ⟨"MakingLimits$Remarks", "<init>", "()V"⟩ prog_8_method_1_code 1 none) := ⟨ax_ix 100 rfl, rfl⟩
theorem cd_Re_collect : ax_w (.code ⟨"MakingLimits$Remarks", "collect", "(LMakingLimits$Board;LMakingLimits$Grade;)I"⟩ prog_8_method_2_code 5 (some .int)) := ⟨ax_ix 479 rfl, rfl⟩
theorem cd_Re_thingOf : ax_w (.code ⟨"MakingLimits$Remarks", "thingOf", "(I)I"⟩ prog_8_method_3_code 2 (some .int)) := ⟨ax_ix 499 rfl, rfl⟩
theorem cd_Re_excessOf : ax_w (.code ⟨"MakingLimits$Remarks", "excessOf", "(I)I"⟩ prog_8_method_4_code 2 (some .int)) := ⟨ax_ix 503 rfl, rfl⟩
theorem cd_Re_forget : ax_w (.code ⟨"MakingLimits$Remarks", "forget", "()V"⟩ prog_8_method_5_code 1 none) := ⟨ax_ix 323 rfl, rfl⟩
theorem cd_Tx_init : ax_w (.code ⟨"MakingLimits$Text", "<init>", "()V"⟩ prog_9_method_1_code 1 none) := ⟨ax_ix 55 rfl, rfl⟩
theorem cd_Tx_add : ax_w (.code ⟨"MakingLimits$Text", "add", "(I)Z"⟩ prog_9_method_2_code 2 (some .boolean)) := ⟨ax_ix 194 rfl, rfl⟩
theorem cd_Tx_forget : ax_w (.code ⟨"MakingLimits$Text", "forget", "()V"⟩ prog_9_method_3_code 1 none) := ⟨ax_ix 311 rfl, rfl⟩
theorem cd_Tx_place : ax_w (.code ⟨"MakingLimits$Text", "place", "()I"⟩ prog_9_method_4_code 1 (some .int)) := ⟨ax_ix 300 rfl, rfl⟩
theorem cd_Tx_readNumber : ax_w (.code ⟨"MakingLimits$Text", "readNumber", "(I)I"⟩ prog_9_method_5_code 3 (some .int)) := ⟨ax_ix 202 rfl, rfl⟩
theorem cd_Tx_readOffer : ax_w (.code ⟨"MakingLimits$Text", "readOffer", "()LMakingLimits$Offer;"⟩ prog_9_method_6_code 5 (some (.object "MakingLimits$Offer"))) := ⟨ax_ix 217 rfl, rfl⟩
theorem cd_Tx_readGrade : ax_w (.code ⟨"MakingLimits$Text", "readGrade", "()LMakingLimits$Grade;"⟩ prog_9_method_7_code 3 (some (.object "MakingLimits$Grade"))) := ⟨ax_ix 236 rfl, rfl⟩
theorem cd_Tx_readLimits : ax_w (.code ⟨"MakingLimits$Text", "readLimits", "(LMakingLimits$Grade;)Z"⟩ prog_9_method_8_code 4 (some .boolean)) := ⟨ax_ix 267 rfl, rfl⟩
theorem cd_Tx_readSteps : ax_w (.code ⟨"MakingLimits$Text", "readSteps", "(LMakingLimits$Grade;)Z"⟩ prog_9_method_9_code 5 (some .boolean)) := ⟨ax_ix 280 rfl, rfl⟩
theorem cd_Tx_readDays : ax_w (.code ⟨"MakingLimits$Text", "readDays", "(LMakingLimits$Grade;)Z"⟩ prog_9_method_10_code 3 (some .boolean)) := ⟨ax_ix 288 rfl, rfl⟩
theorem cd_Tx_readWhole : ax_w (.code ⟨"MakingLimits$Text", "readWhole", "()I"⟩ prog_9_method_11_code 3 (some .int)) := ⟨ax_ix 271 rfl, rfl⟩
theorem cd_Tx_passes : ax_w (.code ⟨"MakingLimits$Text", "passes", "(C)Z"⟩ prog_9_method_12_code 2 (some .boolean)) := ⟨ax_ix 206 rfl, rfl⟩
theorem cd_Tx_next : ax_w (.code ⟨"MakingLimits$Text", "next", "()I"⟩ prog_9_method_13_code 1 (some .int)) := ⟨ax_ix 210 rfl, rfl⟩
theorem cd_Tx_isDigit : ax_w (.code ⟨"MakingLimits$Text", "isDigit", "(I)Z"⟩ prog_9_method_14_code 1 (some .boolean)) := ⟨ax_ix 213 rfl, rfl⟩
theorem cd_Mo_init : ax_w (.code ⟨"MakingLimitsModel", "<init>", "()V"⟩ prog_11_method_1_code 1 none) := ⟨ax_ix 655 rfl, rfl⟩
theorem cd_Mo_empty : ax_w (.code ⟨"MakingLimitsModel", "empty", "()V"⟩ prog_11_method_2_code 2 none) := ⟨ax_ix 660 rfl, rfl⟩
theorem cd_Mo_thrown : ax_w (.code ⟨"MakingLimitsModel", "thrown", "()I"⟩ prog_11_method_3_code 1 (some .int)) := ⟨ax_ix 737 rfl, rfl⟩
theorem cd_Mo_clear : ax_w (.code ⟨"MakingLimitsModel", "clear", "()V"⟩ prog_11_method_4_code 1 none) := ⟨ax_ix 741 rfl, rfl⟩
theorem cd_Mo_unit : ax_w (.code ⟨"MakingLimitsModel", "unit", "(I)Z"⟩ prog_11_method_5_code 2 (some .boolean)) := ⟨ax_ix 745 rfl, rfl⟩
theorem cd_Mo_now : ax_w (.code ⟨"MakingLimitsModel", "now", "()I"⟩ prog_11_method_6_code 1 (some .int)) := ⟨ax_ix 757 rfl, rfl⟩
theorem cd_Mo_expect : ax_w (.code ⟨"MakingLimitsModel", "expect", "(I)V"⟩ prog_11_method_7_code 2 none) := ⟨ax_ix 753 rfl, rfl⟩
theorem cd_Mo_isDigit : ax_w (.code ⟨"MakingLimitsModel", "isDigit", "()Z"⟩ prog_11_method_8_code 1 (some .boolean)) := ⟨ax_ix 761 rfl, rfl⟩
theorem cd_Mo_whole : ax_w (.code ⟨"MakingLimitsModel", "whole", "()J"⟩ prog_11_method_9_code 4 (some .long)) := ⟨ax_ix 772 rfl, rfl⟩
theorem cd_Mo_place : ax_w (.code ⟨"MakingLimitsModel", "place", "(II)I"⟩ prog_11_method_10_code 2 (some .int)) := ⟨ax_ix 768 rfl, rfl⟩
theorem cd_Mo_readClass : ax_w (.code ⟨"MakingLimitsModel", "readClass", "(I)V"⟩ prog_11_method_11_code 13 none) := ⟨ax_ix 765 rfl, rfl⟩
theorem cd_Mo_copyClasses : ax_w (.code ⟨"MakingLimitsModel", "copyClasses", "(II)V"⟩ prog_11_method_12_code 4 none) := ⟨ax_ix 780 rfl, rfl⟩
theorem cd_Mo_maker : ax_w (.code ⟨"MakingLimitsModel", "maker", "()I"⟩ prog_11_method_13_code 3 (some .int)) := ⟨ax_ix 749 rfl, rfl⟩
theorem cd_Mo_isLayer : ax_w (.code ⟨"MakingLimitsModel", "isLayer", "(I)Z"⟩ prog_11_method_14_code 1 (some .boolean)) := ⟨ax_ix 787 rfl, rfl⟩
theorem cd_Mo_thing : ax_w (.code ⟨"MakingLimitsModel", "thing", "(IJI)I"⟩ prog_11_method_15_code 6 (some .int)) := ⟨ax_ix 784 rfl, rfl⟩
theorem cd_Mo_isPlace : ax_w (.code ⟨"MakingLimitsModel", "isPlace", "(J)Z"⟩ prog_11_method_16_code 2 (some .boolean)) := ⟨ax_ix 794 rfl, rfl⟩
theorem cd_Mo_at : ax_w (.code ⟨"MakingLimitsModel", "at", "(IJJ)Z"⟩ prog_11_method_17_code 6 (some .boolean)) := ⟨ax_ix 791 rfl, rfl⟩
theorem cd_Mo_beyond : ax_w (.code ⟨"MakingLimitsModel", "beyond", "(III)J"⟩ prog_11_method_18_code 6 (some .long)) := ⟨ax_ix 811 rfl, rfl⟩
theorem cd_Mo_makes : ax_w (.code ⟨"MakingLimitsModel", "makes", "(II)Z"⟩ prog_11_method_19_code 5 (some .boolean)) := ⟨ax_ix 827 rfl, rfl⟩
theorem cd_Mo_leastOf : ax_w (.code ⟨"MakingLimitsModel", "leastOf", "(I)I"⟩ prog_11_method_20_code 3 (some .int)) := ⟨ax_ix 823 rfl, rfl⟩
theorem cd_Mo_isMaker : ax_w (.code ⟨"MakingLimitsModel", "isMaker", "(I)Z"⟩ prog_11_method_21_code 2 (some .boolean)) := ⟨ax_ix 807 rfl, rfl⟩
theorem cd_Mo_isClass : ax_w (.code ⟨"MakingLimitsModel", "isClass", "(II)Z"⟩ prog_11_method_22_code 3 (some .boolean)) := ⟨ax_ix 803 rfl, rfl⟩
theorem cd_Mo_run : ax_w (.code ⟨"MakingLimitsModel", "run", "(II)I"⟩ prog_11_method_23_code 4 (some .int)) := ⟨ax_ix 799 rfl, rfl⟩
theorem cd_Mo_remark : ax_w (.code ⟨"MakingLimitsModel", "remark", "(II)I"⟩ prog_11_method_24_code 4 (some .int)) := ⟨ax_ix 815 rfl, rfl⟩
theorem cd_Mo_least : ax_w (.code ⟨"MakingLimitsModel", "least", "(I)I"⟩ prog_11_method_25_code 2 (some .int)) := ⟨ax_ix 819 rfl, rfl⟩
theorem cd_Mo_isQuantity : ax_w (.code ⟨"MakingLimitsModel", "isQuantity", "(J)Z"⟩ prog_11_method_26_code 2 (some .boolean)) := ⟨ax_ix 834 rfl, rfl⟩
theorem cd_Mo_priceOf : ax_w (.code ⟨"MakingLimitsModel", "priceOf", "(IIJ)J"⟩ prog_11_method_27_code 8 (some .long)) := ⟨ax_ix 838 rfl, rfl⟩
theorem cd_Mo_price : ax_w (.code ⟨"MakingLimitsModel", "price", "(IIJ)J"⟩ prog_11_method_28_code 5 (some .long)) := ⟨ax_ix 831 rfl, rfl⟩
theorem cd_Mo_share : ax_w (.code ⟨"MakingLimitsModel", "share", "(JJI)J"⟩ prog_11_method_29_code 6 (some .long)) := ⟨ax_ix 842 rfl, rfl⟩
theorem cd_Mo_best : ax_w (.code ⟨"MakingLimitsModel", "best", "(J)I"⟩ prog_11_method_30_code 8 (some .int)) := ⟨ax_ix 846 rfl, rfl⟩
theorem cd_Mo_isCell : ax_w (.code ⟨"MakingLimitsModel", "isCell", "(II)Z"⟩ prog_11_method_31_code 2 (some .boolean)) := ⟨ax_ix 853 rfl, rfl⟩
theorem cd_Mo_copper : ax_w (.code ⟨"MakingLimitsModel", "copper", "(IIJJ)Z"⟩ prog_11_method_32_code 10 (some .boolean)) := ⟨ax_ix 850 rfl, rfl⟩
theorem cd_Mo_balance : ax_w (.code ⟨"MakingLimitsModel", "balance", "(III)J"⟩ prog_11_method_33_code 15 (some .long)) := ⟨ax_ix 857 rfl, rfl⟩
theorem cd_Mo_quote : ax_w (.code ⟨"MakingLimitsModel", "quote", "(IJ)I"⟩ prog_11_method_34_code 4 (some .int)) := ⟨ax_ix 864 rfl, rfl⟩
theorem cd_Mo_order : ax_w (.code ⟨"MakingLimitsModel", "order", "(IJJ)I"⟩ prog_11_method_35_code 12 (some .int)) := ⟨ax_ix 868 rfl, rfl⟩
theorem cd_Mo_history : ax_w (.code ⟨"MakingLimitsModel", "history", "(II)I"⟩ prog_11_method_36_code 3 (some .int)) := ⟨ax_ix 873 rfl, rfl⟩
theorem cd_La_thing : ax_w (.codeWith ⟨"MakingLimitsLaw", "thing", "(LMakingLimits;IJI[J)I"⟩ method_3_code 7 (some .int) [(0, 13, 16, 13), (0, 13, 20, 15)]) := ⟨ax_ix 338 rfl, rfl⟩
theorem cd_La_at : ax_w (.codeWith ⟨"MakingLimitsLaw", "at", "(LMakingLimits;IJJ[J)I"⟩ method_4_code 8 (some .int) [(0, 20, 23, 13), (0, 20, 27, 15)]) := ⟨ax_ix 438 rfl, rfl⟩
theorem cd_La_run : ax_w (.codeWith ⟨"MakingLimitsLaw", "run", "(LMakingLimits;II[J)I"⟩ method_5_code 5 (some .int) [(0, 10, 13, 13)]) := ⟨ax_ix 457 rfl, rfl⟩
theorem cd_La_remark : ax_w (.codeWith ⟨"MakingLimitsLaw", "remark", "(LMakingLimits;II[J)I"⟩ method_6_code 5 (some .int) [(0, 10, 13, 13)]) := ⟨ax_ix 490 rfl, rfl⟩
theorem cd_La_least : ax_w (.codeWith ⟨"MakingLimitsLaw", "least", "(LMakingLimits;I[J)I"⟩ method_7_code 4 (some .int) [(0, 9, 12, 13)]) := ⟨ax_ix 510 rfl, rfl⟩
theorem cd_La_price : ax_w (.codeWith ⟨"MakingLimitsLaw", "price", "(LMakingLimits;IIJ[J)I"⟩ method_8_code 7 (some .int) [(0, 11, 14, 13), (0, 11, 18, 15)]) := ⟨ax_ix 527 rfl, rfl⟩
theorem cd_La_share : ax_w (.codeWith ⟨"MakingLimitsLaw", "share", "(LMakingLimits;JJI[J)I"⟩ method_9_code 8 (some .int) [(0, 12, 15, 13), (0, 12, 19, 15)]) := ⟨ax_ix 545 rfl, rfl⟩
theorem cd_La_balance : ax_w (.codeWith ⟨"MakingLimitsLaw", "balance", "(LMakingLimits;III[J)I"⟩ method_10_code 6 (some .int) [(0, 11, 14, 13)]) := ⟨ax_ix 554 rfl, rfl⟩
theorem cd_La_quote : ax_w (.codeWith ⟨"MakingLimitsLaw", "quote", "(LMakingLimits;IJ[J)I"⟩ method_11_code 6 (some .int) [(0, 11, 14, 13)]) := ⟨ax_ix 584 rfl, rfl⟩
theorem cd_La_copper : ax_w (.codeWith ⟨"MakingLimitsLaw", "copper", "(LMakingLimits;IIJJ[J)I"⟩ method_12_code 9 (some .int) [(0, 21, 24, 13), (0, 21, 28, 15)]) := ⟨ax_ix 595 rfl, rfl⟩
theorem cd_La_best : ax_w (.codeWith ⟨"MakingLimitsLaw", "best", "(LMakingLimits;J[J)I"⟩ method_13_code 5 (some .int) [(0, 9, 12, 15)]) := ⟨ax_ix 609 rfl, rfl⟩
theorem cd_La_order : ax_w (.codeWith ⟨"MakingLimitsLaw", "order", "(LMakingLimits;IJJ[J)I"⟩ method_14_code 8 (some .int) [(0, 13, 16, 13), (0, 13, 20, 15)]) := ⟨ax_ix 616 rfl, rfl⟩
theorem cd_La_history : ax_w (.codeWith ⟨"MakingLimitsLaw", "history", "(LMakingLimits;II[J)I"⟩ method_15_code 5 (some .int) [(0, 10, 13, 13)]) := ⟨ax_ix 636 rfl, rfl⟩
theorem cd_Ar_fill : ax_w (.code ⟨"java/util/Arrays", "fill", "([II)V"⟩ prog_19_method_103_code 4 none) := ⟨ax_ix 154 rfl, rfl⟩
theorem cd_Ma_maxI : ax_w (.code ⟨"java/lang/Math", "max", "(II)I"⟩ prog_15_method_65_code 2 (some .int)) := ⟨ax_ix 307 rfl, rfl⟩
theorem cd_Ma_maxL : ax_w (.code ⟨"java/lang/Math", "max", "(JJ)J"⟩ prog_15_method_66_code 4 (some .long)) := ⟨ax_ix 542 rfl, rfl⟩
theorem cd_Ma_absL : ax_w (.code ⟨"java/lang/Math", "abs", "(J)J"⟩ prog_15_method_61_code 2 (some .long)) := ⟨ax_ix 576 rfl, rfl⟩
end
section
/-! the methods' instructions, and what their calls need, are the Statement's -/
def ax_notMH (y : MethodName) : Prop := y.cls ≠ "java/lang/invoke/MethodHandle" ∧ y.cls ≠ "java/lang/invoke/VarHandle"
def ax_callee (own ix : Nat) (g : Nat → Nat → MethodName → Nat → Nat → Nat → Bool) : Bool := match ax_tM.lookup (own, ix) with
  | some q => match ax_mm[q.1]? with
    | some z => g q.1 q.2 z.1 z.2.2.1 z.2.2.2.1 z.2.2.2.2
    | none => false
  | none => false
def ax_link (own ix : Nat) (y : MethodName) : Bool := decide (ax_w (.methodLink (ax_cn own) ix y)) || decide (ax_w (.methodLinkNest (ax_cn own) ix y "MakingLimits"))
def ax_fit (fr lo mi nL f l : Nat) (y : MethodName) : Bool := decide (y ≠ x) && decide (f + 1 ≤ fr) && decide (8 + (nL + 11) + l ≤ lo) && decide (y.cls ≠ "java/lang/invoke/MethodHandle") && decide (y.cls ≠ "java/lang/invoke/VarHandle")
def ax_okS (fr lo own ix : Nat) : Bool := ax_callee own ix (fun mi n y nL f l => ax_fit fr lo mi nL f l y && ax_link own ix y && decide (ax_w (.static y)) && decide (ax_w (.initialized y.cls)) && decide ((parseMethodDescriptor y.desc).map (fun d => d.parameters.length) = some n))
def ax_okV (fr lo own ix : Nat) : Bool := ax_callee own ix (fun mi n y nL f l => ax_fit fr lo mi nL f l y && ax_link own ix y && decide (ax_w (.instanceMethod y)) && decide (ax_w (.selects y.cls y y)) && decide ((parseMethodDescriptor y.desc).map (fun d => d.parameters.length + 1) = some n) && decide ((classes[ax_rc mi]?).map (fun q => q.1) = some y.cls))
def ax_okN (fr lo own ix : Nat) : Bool := ax_callee own ix (fun mi n y nL f l => ax_fit fr lo mi nL f l y && ax_link own ix y && decide (ax_w (.instanceMethod y)) && decide (y.name = "<init>") && decide ((ax_pr[mi]?).map (fun M => (M.2.1, M.2.2.2.1)) = some (none, [])) && decide ((parseMethodDescriptor y.desc).map (fun d => d.parameters.length + 1) = some n))
def ax_okC (fr lo own : Nat) : Instr → Bool
  | .invokestatic ix => ax_okS fr lo own ix
  | .invokevirtual ix => ax_okV fr lo own ix
  | .invokespecial ix => if (own, ix) ∈ ax_tO then decide (1 ≤ fr) && decide (20 ≤ lo) else if (own, ix) ∈ ax_tX.map (fun q => (q.1.1, q.2.2)) then true else ax_okN fr lo own ix
  | .new ix => if (own, ix) ∈ ax_tX.map (fun q => q.1) then decide (6 ≤ fr) && decide (82 ≤ lo) else true
  | _ => true
/-- every class that a handler names is one of the two -/
def ax_hsok (own : Nat) (hs : List (Nat × Nat × Nat × Nat)) : Bool := hs.all (fun q => decide (q.2.2.2 ≠ 0) && (ax_tC.lookup (own, q.2.2.2)).isSome)
def ax_okM (M : ax_M) (q : MethodName × ByteArray × Nat × Nat × Nat) : Bool :=
  M.2.2.1.all (fun e => ax_okC q.2.2.2.1 q.2.2.2.2 M.1 e.2.1) && plainFor q.1 && (!M.2.2.2.2 || decide (q.1.name = "<init>")) && decide (q.1.cls = ax_cn M.1) && ax_hsok M.1 M.2.2.2.1
def ax_codeOk (M : ax_M) (q : MethodName × ByteArray × Nat × Nat × Nat) : Prop := q.1 = x ∨ (M.2.2.2.1 = [] ∧ ax_w (.code q.1 q.2.1 q.2.2.1 M.2.1)) ∨ (M.2.2.2.1 ≠ [] ∧ ax_w (.codeWith q.1 q.2.1 q.2.2.1 M.2.1 M.2.2.2.1))
end
section
theorem ax_okM_0 : ((ax_pr.zip ax_mm).drop 0 |>.take 5).all (fun q => ax_okM q.1 q.2) = true := by decide +kernel
theorem ax_okM_5 : ((ax_pr.zip ax_mm).drop 5 |>.take 5).all (fun q => ax_okM q.1 q.2) = true := by decide +kernel
theorem ax_okM_10 : ((ax_pr.zip ax_mm).drop 10 |>.take 5).all (fun q => ax_okM q.1 q.2) = true := by decide +kernel
theorem ax_okM_15 : ((ax_pr.zip ax_mm).drop 15 |>.take 5).all (fun q => ax_okM q.1 q.2) = true := by decide +kernel
theorem ax_okM_20 : ((ax_pr.zip ax_mm).drop 20 |>.take 5).all (fun q => ax_okM q.1 q.2) = true := by decide +kernel
theorem ax_okM_25 : ((ax_pr.zip ax_mm).drop 25 |>.take 5).all (fun q => ax_okM q.1 q.2) = true := by decide +kernel
end
section
theorem ax_okM_30 : ((ax_pr.zip ax_mm).drop 30 |>.take 5).all (fun q => ax_okM q.1 q.2) = true := by decide +kernel
theorem ax_okM_35 : ((ax_pr.zip ax_mm).drop 35 |>.take 5).all (fun q => ax_okM q.1 q.2) = true := by decide +kernel
theorem ax_okM_40 : ((ax_pr.zip ax_mm).drop 40 |>.take 5).all (fun q => ax_okM q.1 q.2) = true := by decide +kernel
theorem ax_okM_45 : ((ax_pr.zip ax_mm).drop 45 |>.take 5).all (fun q => ax_okM q.1 q.2) = true := by decide +kernel
theorem ax_okM_50 : ((ax_pr.zip ax_mm).drop 50 |>.take 5).all (fun q => ax_okM q.1 q.2) = true := by decide +kernel
end
section
theorem ax_okM_55 : ((ax_pr.zip ax_mm).drop 55 |>.take 5).all (fun q => ax_okM q.1 q.2) = true := by decide +kernel
theorem ax_okM_60 : ((ax_pr.zip ax_mm).drop 60 |>.take 5).all (fun q => ax_okM q.1 q.2) = true := by decide +kernel
theorem ax_okM_65 : ((ax_pr.zip ax_mm).drop 65 |>.take 5).all (fun q => ax_okM q.1 q.2) = true := by decide +kernel
theorem ax_okM_70 : ((ax_pr.zip ax_mm).drop 70 |>.take 5).all (fun q => ax_okM q.1 q.2) = true := by decide +kernel
theorem ax_okM_75 : ((ax_pr.zip ax_mm).drop 75 |>.take 5).all (fun q => ax_okM q.1 q.2) = true := by decide +kernel
end
section
theorem ax_okM_80 : ((ax_pr.zip ax_mm).drop 80 |>.take 5).all (fun q => ax_okM q.1 q.2) = true := by decide +kernel
theorem ax_okM_85 : ((ax_pr.zip ax_mm).drop 85 |>.take 5).all (fun q => ax_okM q.1 q.2) = true := by decide +kernel
theorem ax_okM_90 : ((ax_pr.zip ax_mm).drop 90 |>.take 5).all (fun q => ax_okM q.1 q.2) = true := by decide +kernel
theorem ax_okM_95 : ((ax_pr.zip ax_mm).drop 95 |>.take 5).all (fun q => ax_okM q.1 q.2) = true := by decide +kernel
theorem ax_okM_100 : ((ax_pr.zip ax_mm).drop 100 |>.take 5).all (fun q => ax_okM q.1 q.2) = true := by decide +kernel
end
section
theorem ax_okM_105 : ((ax_pr.zip ax_mm).drop 105 |>.take 5).all (fun q => ax_okM q.1 q.2) = true := by decide +kernel
theorem ax_okM_110 : ((ax_pr.zip ax_mm).drop 110 |>.take 5).all (fun q => ax_okM q.1 q.2) = true := by decide +kernel
theorem ax_okM_115 : ((ax_pr.zip ax_mm).drop 115 |>.take 5).all (fun q => ax_okM q.1 q.2) = true := by decide +kernel
theorem ax_okM_120 : ((ax_pr.zip ax_mm).drop 120 |>.take 5).all (fun q => ax_okM q.1 q.2) = true := by decide +kernel
theorem ax_okM_125 : ((ax_pr.zip ax_mm).drop 125 |>.take 5).all (fun q => ax_okM q.1 q.2) = true := by decide +kernel
end
section
theorem oi_ML_init_1 : tb_ML_init_1.all (ax_okI prog_1_method_1_code 1) = true := by decide +kernel
theorem oi_ML_init_2 : tb_ML_init_2.all (ax_okI prog_1_method_1_code 1) = true := by decide +kernel
theorem oi_ML_unit : tb_ML_unit.all (ax_okI prog_1_method_2_code 2) = true := by decide +kernel
theorem oi_ML_maker_1 : tb_ML_maker_1.all (ax_okI prog_1_method_3_code 4) = true := by decide +kernel
theorem oi_ML_maker_2 : tb_ML_maker_2.all (ax_okI prog_1_method_3_code 4) = true := by decide +kernel
theorem oi_ML_thing_1 : tb_ML_thing_1.all (ax_okI prog_1_method_4_code 5) = true := by decide +kernel
theorem oi_ML_thing_2 : tb_ML_thing_2.all (ax_okI prog_1_method_4_code 5) = true := by decide +kernel
theorem oi_ML_at_1 : tb_ML_at_1.all (ax_okI prog_1_method_5_code 6) = true := by decide +kernel
theorem oi_ML_at_2 : tb_ML_at_2.all (ax_okI prog_1_method_5_code 6) = true := by decide +kernel
theorem oi_ML_run : tb_ML_run.all (ax_okI prog_1_method_6_code 3) = true := by decide +kernel
theorem oi_ML_remark_1 : tb_ML_remark_1.all (ax_okI prog_1_method_7_code 4) = true := by decide +kernel
theorem oi_ML_remark_2 : tb_ML_remark_2.all (ax_okI prog_1_method_7_code 4) = true := by decide +kernel
theorem oi_ML_least : tb_ML_least.all (ax_okI prog_1_method_8_code 2) = true := by decide +kernel
theorem oi_ML_price : tb_ML_price.all (ax_okI prog_1_method_9_code 6) = true := by decide +kernel
theorem oi_ML_share_1 : tb_ML_share_1.all (ax_okI prog_1_method_10_code 8) = true := by decide +kernel
theorem oi_ML_share_2 : tb_ML_share_2.all (ax_okI prog_1_method_10_code 8) = true := by decide +kernel
theorem oi_ML_balance_1 : tb_ML_balance_1.all (ax_okI prog_1_method_11_code 8) = true := by decide +kernel
theorem oi_ML_balance_2 : tb_ML_balance_2.all (ax_okI prog_1_method_11_code 8) = true := by decide +kernel
theorem oi_ML_quote : tb_ML_quote.all (ax_okI prog_1_method_12_code 4) = true := by decide +kernel
theorem oi_ML_copper_1 : tb_ML_copper_1.all (ax_okI prog_1_method_13_code 7) = true := by decide +kernel
theorem oi_ML_copper_2 : tb_ML_copper_2.all (ax_okI prog_1_method_13_code 7) = true := by decide +kernel
theorem oi_ML_best_1 : tb_ML_best_1.all (ax_okI prog_1_method_14_code 9) = true := by decide +kernel
theorem oi_ML_best_2 : tb_ML_best_2.all (ax_okI prog_1_method_14_code 9) = true := by decide +kernel
theorem oi_ML_order_1 : tb_ML_order_1.all (ax_okI prog_1_method_15_code 12) = true := by decide +kernel
theorem oi_ML_order_2 : tb_ML_order_2.all (ax_okI prog_1_method_15_code 12) = true := by decide +kernel
theorem oi_ML_history : tb_ML_history.all (ax_okI prog_1_method_16_code 3) = true := by decide +kernel
theorem oi_ML_clear_1 : tb_ML_clear_1.all (ax_okI prog_1_method_17_code 2) = true := by decide +kernel
theorem oi_ML_clear_2 : tb_ML_clear_2.all (ax_okI prog_1_method_17_code 2) = true := by decide +kernel
theorem oi_ML_keepOffer : tb_ML_keepOffer.all (ax_okI prog_1_method_18_code 3) = true := by decide +kernel
theorem oi_ML_offerOf : tb_ML_offerOf.all (ax_okI prog_1_method_19_code 3) = true := by decide +kernel
theorem oi_ML_gradeOf : tb_ML_gradeOf.all (ax_okI prog_1_method_20_code 4) = true := by decide +kernel
theorem oi_ML_checkQuantity : tb_ML_checkQuantity.all (ax_okI prog_1_method_21_code 2) = true := by decide +kernel
theorem oi_ML_isNoLayer : tb_ML_isNoLayer.all (ax_okI prog_1_method_22_code 1) = true := by decide +kernel
theorem oi_ML_commonDivisor : tb_ML_commonDivisor.all (ax_okI prog_1_method_23_code 11) = true := by decide +kernel
theorem oi_Bd_init : tb_Bd_init.all (ax_okI prog_2_method_1_code 1) = true := by decide +kernel
theorem oi_Bd_add_1 : tb_Bd_add_1.all (ax_okI prog_2_method_2_code 4) = true := by decide +kernel
theorem oi_Bd_add_2 : tb_Bd_add_2.all (ax_okI prog_2_method_2_code 4) = true := by decide +kernel
theorem oi_Bd_hasNo : tb_Bd_hasNo.all (ax_okI prog_2_method_3_code 2) = true := by decide +kernel
theorem oi_Bd_move_1 : tb_Bd_move_1.all (ax_okI prog_2_method_4_code 5) = true := by decide +kernel
theorem oi_Bd_move_2 : tb_Bd_move_2.all (ax_okI prog_2_method_4_code 5) = true := by decide +kernel
theorem oi_Bd_excess : tb_Bd_excess.all (ax_okI prog_2_method_5_code 3) = true := by decide +kernel
theorem oi_Bd_isMadeBy : tb_Bd_isMadeBy.all (ax_okI prog_2_method_6_code 3) = true := by decide +kernel
theorem oi_Bd_part : tb_Bd_part.all (ax_okI prog_2_method_7_code 3) = true := by decide +kernel
theorem oi_Bd_forget : tb_Bd_forget.all (ax_okI prog_2_method_8_code 1) = true := by decide +kernel
theorem oi_Ce_init : tb_Ce_init.all (ax_okI prog_3_method_1_code 1) = true := by decide +kernel
theorem oi_Ce_isNoCell : tb_Ce_isNoCell.all (ax_okI prog_3_method_2_code 1) = true := by decide +kernel
theorem oi_Ce_tell_1 : tb_Ce_tell_1.all (ax_okI prog_3_method_3_code 7) = true := by decide +kernel
theorem oi_Ce_tell_2 : tb_Ce_tell_2.all (ax_okI prog_3_method_3_code 7) = true := by decide +kernel
theorem oi_Ce_aboveMean : tb_Ce_aboveMean.all (ax_okI prog_3_method_4_code 6) = true := by decide +kernel
theorem oi_Ce_units_1 : tb_Ce_units_1.all (ax_okI prog_3_method_5_code 5) = true := by decide +kernel
theorem oi_Ce_units_2 : tb_Ce_units_2.all (ax_okI prog_3_method_5_code 5) = true := by decide +kernel
theorem oi_Ce_forget : tb_Ce_forget.all (ax_okI prog_3_method_6_code 1) = true := by decide +kernel
theorem oi_Gr_init : tb_Gr_init.all (ax_okI prog_4_method_1_code 1) = true := by decide +kernel
theorem oi_Gr_setLimit : tb_Gr_setLimit.all (ax_okI prog_4_method_2_code 3) = true := by decide +kernel
theorem oi_Gr_addStep_1 : tb_Gr_addStep_1.all (ax_okI prog_4_method_3_code 4) = true := by decide +kernel
theorem oi_Gr_addStep_2 : tb_Gr_addStep_2.all (ax_okI prog_4_method_3_code 4) = true := by decide +kernel
theorem oi_Gr_setDays : tb_Gr_setDays.all (ax_okI prog_4_method_4_code 2) = true := by decide +kernel
theorem oi_Gr_excess : tb_Gr_excess.all (ax_okI prog_4_method_5_code 4) = true := by decide +kernel
theorem oi_Gr_priceOf_1 : tb_Gr_priceOf_1.all (ax_okI prog_4_method_6_code 8) = true := by decide +kernel
theorem oi_Gr_priceOf_2 : tb_Gr_priceOf_2.all (ax_okI prog_4_method_6_code 8) = true := by decide +kernel
end
section
theorem oi_Of_init : tb_Of_init.all (ax_okI prog_5_method_1_code 1) = true := by decide +kernel
theorem oi_Of_add : tb_Of_add.all (ax_okI prog_5_method_2_code 2) = true := by decide +kernel
theorem oi_Of_gradeAt : tb_Of_gradeAt.all (ax_okI prog_5_method_3_code 2) = true := by decide +kernel
theorem oi_Of_leastFor : tb_Of_leastFor.all (ax_okI prog_5_method_4_code 4) = true := by decide +kernel
theorem oi_Or_init : tb_Or_init.all (ax_okI prog_6_method_1_code 1) = true := by decide +kernel
theorem oi_Or_add_1 : tb_Or_add_1.all (ax_okI prog_6_method_2_code 9) = true := by decide +kernel
theorem oi_Or_add_2 : tb_Or_add_2.all (ax_okI prog_6_method_2_code 9) = true := by decide +kernel
theorem oi_Or_add_3 : tb_Or_add_3.all (ax_okI prog_6_method_2_code 9) = true := by decide +kernel
theorem oi_Or_hasNo : tb_Or_hasNo.all (ax_okI prog_6_method_3_code 2) = true := by decide +kernel
theorem oi_Or_part : tb_Or_part.all (ax_okI prog_6_method_4_code 3) = true := by decide +kernel
theorem oi_Or_forget : tb_Or_forget.all (ax_okI prog_6_method_5_code 1) = true := by decide +kernel
theorem oi_Qu_init : tb_Qu_init.all (ax_okI prog_7_method_1_code 1) = true := by decide +kernel
theorem oi_Qu_add_1 : tb_Qu_add_1.all (ax_okI prog_7_method_2_code 5) = true := by decide +kernel
theorem oi_Qu_add_2 : tb_Qu_add_2.all (ax_okI prog_7_method_2_code 5) = true := by decide +kernel
theorem oi_Qu_latest : tb_Qu_latest.all (ax_okI prog_7_method_3_code 5) = true := by decide +kernel
theorem oi_Qu_offerAt : tb_Qu_offerAt.all (ax_okI prog_7_method_4_code 2) = true := by decide +kernel
theorem oi_Qu_forget : tb_Qu_forget.all (ax_okI prog_7_method_5_code 1) = true := by decide +kernel
theorem oi_Re_init : tb_Re_init.all (ax_okI prog_8_method_1_code 1) = true := by decide +kernel
theorem oi_Re_collect_1 : tb_Re_collect_1.all (ax_okI prog_8_method_2_code 5) = true := by decide +kernel
theorem oi_Re_collect_2 : tb_Re_collect_2.all (ax_okI prog_8_method_2_code 5) = true := by decide +kernel
theorem oi_Re_thingOf : tb_Re_thingOf.all (ax_okI prog_8_method_3_code 2) = true := by decide +kernel
theorem oi_Re_excessOf : tb_Re_excessOf.all (ax_okI prog_8_method_4_code 2) = true := by decide +kernel
theorem oi_Re_forget : tb_Re_forget.all (ax_okI prog_8_method_5_code 1) = true := by decide +kernel
theorem oi_Tx_init : tb_Tx_init.all (ax_okI prog_9_method_1_code 1) = true := by decide +kernel
theorem oi_Tx_add : tb_Tx_add.all (ax_okI prog_9_method_2_code 2) = true := by decide +kernel
theorem oi_Tx_forget : tb_Tx_forget.all (ax_okI prog_9_method_3_code 1) = true := by decide +kernel
theorem oi_Tx_place : tb_Tx_place.all (ax_okI prog_9_method_4_code 1) = true := by decide +kernel
theorem oi_Tx_readNumber_1 : tb_Tx_readNumber_1.all (ax_okI prog_9_method_5_code 3) = true := by decide +kernel
theorem oi_Tx_readNumber_2 : tb_Tx_readNumber_2.all (ax_okI prog_9_method_5_code 3) = true := by decide +kernel
theorem oi_Tx_readOffer_1 : tb_Tx_readOffer_1.all (ax_okI prog_9_method_6_code 5) = true := by decide +kernel
theorem oi_Tx_readOffer_2 : tb_Tx_readOffer_2.all (ax_okI prog_9_method_6_code 5) = true := by decide +kernel
theorem oi_Tx_readGrade_1 : tb_Tx_readGrade_1.all (ax_okI prog_9_method_7_code 3) = true := by decide +kernel
theorem oi_Tx_readGrade_2 : tb_Tx_readGrade_2.all (ax_okI prog_9_method_7_code 3) = true := by decide +kernel
theorem oi_Tx_readLimits : tb_Tx_readLimits.all (ax_okI prog_9_method_8_code 4) = true := by decide +kernel
theorem oi_Tx_readSteps_1 : tb_Tx_readSteps_1.all (ax_okI prog_9_method_9_code 5) = true := by decide +kernel
theorem oi_Tx_readSteps_2 : tb_Tx_readSteps_2.all (ax_okI prog_9_method_9_code 5) = true := by decide +kernel
theorem oi_Tx_readDays : tb_Tx_readDays.all (ax_okI prog_9_method_10_code 3) = true := by decide +kernel
theorem oi_Tx_readWhole_1 : tb_Tx_readWhole_1.all (ax_okI prog_9_method_11_code 3) = true := by decide +kernel
theorem oi_Tx_readWhole_2 : tb_Tx_readWhole_2.all (ax_okI prog_9_method_11_code 3) = true := by decide +kernel
theorem oi_Tx_passes : tb_Tx_passes.all (ax_okI prog_9_method_12_code 2) = true := by decide +kernel
theorem oi_Tx_next : tb_Tx_next.all (ax_okI prog_9_method_13_code 1) = true := by decide +kernel
theorem oi_Tx_isDigit : tb_Tx_isDigit.all (ax_okI prog_9_method_14_code 1) = true := by decide +kernel
theorem oi_Mo_init_1 : tb_Mo_init_1.all (ax_okI prog_11_method_1_code 1) = true := by decide +kernel
theorem oi_Mo_init_2 : tb_Mo_init_2.all (ax_okI prog_11_method_1_code 1) = true := by decide +kernel
theorem oi_Mo_init_3 : tb_Mo_init_3.all (ax_okI prog_11_method_1_code 1) = true := by decide +kernel
theorem oi_Mo_empty_1 : tb_Mo_empty_1.all (ax_okI prog_11_method_2_code 2) = true := by decide +kernel
theorem oi_Mo_empty_2 : tb_Mo_empty_2.all (ax_okI prog_11_method_2_code 2) = true := by decide +kernel
theorem oi_Mo_thrown : tb_Mo_thrown.all (ax_okI prog_11_method_3_code 1) = true := by decide +kernel
theorem oi_Mo_clear : tb_Mo_clear.all (ax_okI prog_11_method_4_code 1) = true := by decide +kernel
theorem oi_Mo_unit : tb_Mo_unit.all (ax_okI prog_11_method_5_code 2) = true := by decide +kernel
theorem oi_Mo_now : tb_Mo_now.all (ax_okI prog_11_method_6_code 1) = true := by decide +kernel
theorem oi_Mo_expect : tb_Mo_expect.all (ax_okI prog_11_method_7_code 2) = true := by decide +kernel
theorem oi_Mo_isDigit : tb_Mo_isDigit.all (ax_okI prog_11_method_8_code 1) = true := by decide +kernel
theorem oi_Mo_whole_1 : tb_Mo_whole_1.all (ax_okI prog_11_method_9_code 4) = true := by decide +kernel
theorem oi_Mo_whole_2 : tb_Mo_whole_2.all (ax_okI prog_11_method_9_code 4) = true := by decide +kernel
theorem oi_Mo_place : tb_Mo_place.all (ax_okI prog_11_method_10_code 2) = true := by decide +kernel
theorem oi_Mo_readClass_1 : tb_Mo_readClass_1.all (ax_okI prog_11_method_11_code 13) = true := by decide +kernel
theorem oi_Mo_readClass_2 : tb_Mo_readClass_2.all (ax_okI prog_11_method_11_code 13) = true := by decide +kernel
theorem oi_Mo_readClass_3 : tb_Mo_readClass_3.all (ax_okI prog_11_method_11_code 13) = true := by decide +kernel
theorem oi_Mo_readClass_4 : tb_Mo_readClass_4.all (ax_okI prog_11_method_11_code 13) = true := by decide +kernel
end
section
theorem oi_Mo_readClass_5 : tb_Mo_readClass_5.all (ax_okI prog_11_method_11_code 13) = true := by decide +kernel
theorem oi_Mo_readClass_6 : tb_Mo_readClass_6.all (ax_okI prog_11_method_11_code 13) = true := by decide +kernel
theorem oi_Mo_readClass_7 : tb_Mo_readClass_7.all (ax_okI prog_11_method_11_code 13) = true := by decide +kernel
theorem oi_Mo_copyClasses_1 : tb_Mo_copyClasses_1.all (ax_okI prog_11_method_12_code 4) = true := by decide +kernel
theorem oi_Mo_copyClasses_2 : tb_Mo_copyClasses_2.all (ax_okI prog_11_method_12_code 4) = true := by decide +kernel
theorem oi_Mo_maker_1 : tb_Mo_maker_1.all (ax_okI prog_11_method_13_code 3) = true := by decide +kernel
theorem oi_Mo_maker_2 : tb_Mo_maker_2.all (ax_okI prog_11_method_13_code 3) = true := by decide +kernel
theorem oi_Mo_maker_3 : tb_Mo_maker_3.all (ax_okI prog_11_method_13_code 3) = true := by decide +kernel
theorem oi_Mo_maker_4 : tb_Mo_maker_4.all (ax_okI prog_11_method_13_code 3) = true := by decide +kernel
theorem oi_Mo_isLayer : tb_Mo_isLayer.all (ax_okI prog_11_method_14_code 1) = true := by decide +kernel
theorem oi_Mo_thing_1 : tb_Mo_thing_1.all (ax_okI prog_11_method_15_code 6) = true := by decide +kernel
theorem oi_Mo_thing_2 : tb_Mo_thing_2.all (ax_okI prog_11_method_15_code 6) = true := by decide +kernel
theorem oi_Mo_thing_3 : tb_Mo_thing_3.all (ax_okI prog_11_method_15_code 6) = true := by decide +kernel
theorem oi_Mo_isPlace : tb_Mo_isPlace.all (ax_okI prog_11_method_16_code 2) = true := by decide +kernel
theorem oi_Mo_at_1 : tb_Mo_at_1.all (ax_okI prog_11_method_17_code 6) = true := by decide +kernel
theorem oi_Mo_at_2 : tb_Mo_at_2.all (ax_okI prog_11_method_17_code 6) = true := by decide +kernel
theorem oi_Mo_beyond_1 : tb_Mo_beyond_1.all (ax_okI prog_11_method_18_code 6) = true := by decide +kernel
theorem oi_Mo_beyond_2 : tb_Mo_beyond_2.all (ax_okI prog_11_method_18_code 6) = true := by decide +kernel
theorem oi_Mo_makes : tb_Mo_makes.all (ax_okI prog_11_method_19_code 5) = true := by decide +kernel
theorem oi_Mo_leastOf : tb_Mo_leastOf.all (ax_okI prog_11_method_20_code 3) = true := by decide +kernel
theorem oi_Mo_isMaker : tb_Mo_isMaker.all (ax_okI prog_11_method_21_code 2) = true := by decide +kernel
theorem oi_Mo_isClass : tb_Mo_isClass.all (ax_okI prog_11_method_22_code 3) = true := by decide +kernel
theorem oi_Mo_run_1 : tb_Mo_run_1.all (ax_okI prog_11_method_23_code 4) = true := by decide +kernel
theorem oi_Mo_run_2 : tb_Mo_run_2.all (ax_okI prog_11_method_23_code 4) = true := by decide +kernel
theorem oi_Mo_remark_1 : tb_Mo_remark_1.all (ax_okI prog_11_method_24_code 4) = true := by decide +kernel
theorem oi_Mo_remark_2 : tb_Mo_remark_2.all (ax_okI prog_11_method_24_code 4) = true := by decide +kernel
theorem oi_Mo_least : tb_Mo_least.all (ax_okI prog_11_method_25_code 2) = true := by decide +kernel
theorem oi_Mo_isQuantity : tb_Mo_isQuantity.all (ax_okI prog_11_method_26_code 2) = true := by decide +kernel
theorem oi_Mo_priceOf_1 : tb_Mo_priceOf_1.all (ax_okI prog_11_method_27_code 8) = true := by decide +kernel
theorem oi_Mo_priceOf_2 : tb_Mo_priceOf_2.all (ax_okI prog_11_method_27_code 8) = true := by decide +kernel
theorem oi_Mo_price : tb_Mo_price.all (ax_okI prog_11_method_28_code 5) = true := by decide +kernel
theorem oi_Mo_share_1 : tb_Mo_share_1.all (ax_okI prog_11_method_29_code 6) = true := by decide +kernel
theorem oi_Mo_share_2 : tb_Mo_share_2.all (ax_okI prog_11_method_29_code 6) = true := by decide +kernel
theorem oi_Mo_best_1 : tb_Mo_best_1.all (ax_okI prog_11_method_30_code 8) = true := by decide +kernel
theorem oi_Mo_best_2 : tb_Mo_best_2.all (ax_okI prog_11_method_30_code 8) = true := by decide +kernel
theorem oi_Mo_isCell : tb_Mo_isCell.all (ax_okI prog_11_method_31_code 2) = true := by decide +kernel
theorem oi_Mo_copper_1 : tb_Mo_copper_1.all (ax_okI prog_11_method_32_code 10) = true := by decide +kernel
theorem oi_Mo_copper_2 : tb_Mo_copper_2.all (ax_okI prog_11_method_32_code 10) = true := by decide +kernel
theorem oi_Mo_copper_3 : tb_Mo_copper_3.all (ax_okI prog_11_method_32_code 10) = true := by decide +kernel
theorem oi_Mo_balance_1 : tb_Mo_balance_1.all (ax_okI prog_11_method_33_code 15) = true := by decide +kernel
theorem oi_Mo_balance_2 : tb_Mo_balance_2.all (ax_okI prog_11_method_33_code 15) = true := by decide +kernel
theorem oi_Mo_balance_3 : tb_Mo_balance_3.all (ax_okI prog_11_method_33_code 15) = true := by decide +kernel
theorem oi_Mo_balance_4 : tb_Mo_balance_4.all (ax_okI prog_11_method_33_code 15) = true := by decide +kernel
theorem oi_Mo_quote_1 : tb_Mo_quote_1.all (ax_okI prog_11_method_34_code 4) = true := by decide +kernel
theorem oi_Mo_quote_2 : tb_Mo_quote_2.all (ax_okI prog_11_method_34_code 4) = true := by decide +kernel
theorem oi_Mo_order_1 : tb_Mo_order_1.all (ax_okI prog_11_method_35_code 12) = true := by decide +kernel
theorem oi_Mo_order_2 : tb_Mo_order_2.all (ax_okI prog_11_method_35_code 12) = true := by decide +kernel
theorem oi_Mo_order_3 : tb_Mo_order_3.all (ax_okI prog_11_method_35_code 12) = true := by decide +kernel
theorem oi_Mo_order_4 : tb_Mo_order_4.all (ax_okI prog_11_method_35_code 12) = true := by decide +kernel
theorem oi_Mo_order_5 : tb_Mo_order_5.all (ax_okI prog_11_method_35_code 12) = true := by decide +kernel
theorem oi_Mo_history_1 : tb_Mo_history_1.all (ax_okI prog_11_method_36_code 3) = true := by decide +kernel
theorem oi_Mo_history_2 : tb_Mo_history_2.all (ax_okI prog_11_method_36_code 3) = true := by decide +kernel
theorem oi_La_thing : tb_La_thing.all (ax_okI method_3_code 7) = true := by decide +kernel
theorem oi_La_at : tb_La_at.all (ax_okI method_4_code 8) = true := by decide +kernel
theorem oi_La_run : tb_La_run.all (ax_okI method_5_code 5) = true := by decide +kernel
theorem oi_La_remark : tb_La_remark.all (ax_okI method_6_code 5) = true := by decide +kernel
theorem oi_La_least : tb_La_least.all (ax_okI method_7_code 4) = true := by decide +kernel
theorem oi_La_price : tb_La_price.all (ax_okI method_8_code 7) = true := by decide +kernel
theorem oi_La_share : tb_La_share.all (ax_okI method_9_code 8) = true := by decide +kernel
theorem oi_La_balance : tb_La_balance.all (ax_okI method_10_code 6) = true := by decide +kernel
end
section
theorem oi_La_quote : tb_La_quote.all (ax_okI method_11_code 6) = true := by decide +kernel
theorem oi_La_copper : tb_La_copper.all (ax_okI method_12_code 9) = true := by decide +kernel
theorem oi_La_best : tb_La_best.all (ax_okI method_13_code 5) = true := by decide +kernel
theorem oi_La_order : tb_La_order.all (ax_okI method_14_code 8) = true := by decide +kernel
theorem oi_La_history : tb_La_history.all (ax_okI method_15_code 5) = true := by decide +kernel
theorem oi_Ar_fill : tb_Ar_fill.all (ax_okI prog_19_method_103_code 4) = true := by decide +kernel
theorem oi_Ma_maxI : tb_Ma_maxI.all (ax_okI prog_15_method_65_code 2) = true := by decide +kernel
theorem oi_Ma_maxL : tb_Ma_maxL.all (ax_okI prog_15_method_66_code 4) = true := by decide +kernel
theorem oi_Ma_absL : tb_Ma_absL.all (ax_okI prog_15_method_61_code 2) = true := by decide +kernel
end
section
theorem oi_La_law_1 : tb_La_law_1.all (ax_okI code 8) = true := by decide +kernel
theorem oi_La_law_2 : tb_La_law_2.all (ax_okI code 8) = true := by decide +kernel
theorem oi_La_law_3 : tb_La_law_3.all (ax_okI code 8) = true := by decide +kernel
theorem oi_La_law_4 : tb_La_law_4.all (ax_okI code 8) = true := by decide +kernel
theorem oi_La_law_5 : tb_La_law_5.all (ax_okI code 8) = true := by decide +kernel
theorem oi_La_law_6 : tb_La_law_6.all (ax_okI code 8) = true := by decide +kernel
theorem oi_La_law_7 : tb_La_law_7.all (ax_okI code 8) = true := by decide +kernel
theorem oi_La_law_8 : tb_La_law_8.all (ax_okI code 8) = true := by decide +kernel
theorem oi_La_law_9 : tb_La_law_9.all (ax_okI code 8) = true := by decide +kernel
theorem oi_La_law_10 : tb_La_law_10.all (ax_okI code 8) = true := by decide +kernel
theorem oi_La_law_11 : tb_La_law_11.all (ax_okI code 8) = true := by decide +kernel
theorem oi_La_law_12 : tb_La_law_12.all (ax_okI code 8) = true := by decide +kernel
end
section
theorem oi_La_law_13 : tb_La_law_13.all (ax_okI code 8) = true := by decide +kernel
theorem oi_La_law_14 : tb_La_law_14.all (ax_okI code 8) = true := by decide +kernel
theorem oi_La_law_15 : tb_La_law_15.all (ax_okI code 8) = true := by decide +kernel
theorem oi_La_law_16 : tb_La_law_16.all (ax_okI code 8) = true := by decide +kernel
theorem oi_La_law_17 : tb_La_law_17.all (ax_okI code 8) = true := by decide +kernel
theorem oi_La_law_18 : tb_La_law_18.all (ax_okI code 8) = true := by decide +kernel
theorem oi_La_law_19 : tb_La_law_19.all (ax_okI code 8) = true := by decide +kernel
theorem oi_La_law_20 : tb_La_law_20.all (ax_okI code 8) = true := by decide +kernel
theorem oi_La_law_21 : tb_La_law_21.all (ax_okI code 8) = true := by decide +kernel
theorem oi_La_law_22 : tb_La_law_22.all (ax_okI code 8) = true := by decide +kernel
theorem oi_La_law_23 : tb_La_law_23.all (ax_okI code 8) = true := by decide +kernel
theorem oi_La_law_24 : tb_La_law_24.all (ax_okI code 8) = true := by decide +kernel
end
section
theorem oi_La_law_25 : tb_La_law_25.all (ax_okI code 8) = true := by decide +kernel
theorem oi_La_law_26 : tb_La_law_26.all (ax_okI code 8) = true := by decide +kernel
theorem oi_La_law_27 : tb_La_law_27.all (ax_okI code 8) = true := by decide +kernel
theorem oi_La_law_28 : tb_La_law_28.all (ax_okI code 8) = true := by decide +kernel
theorem oi_La_law_29 : tb_La_law_29.all (ax_okI code 8) = true := by decide +kernel
theorem oi_La_law_30 : tb_La_law_30.all (ax_okI code 8) = true := by decide +kernel
theorem oi_La_law_31 : tb_La_law_31.all (ax_okI code 8) = true := by decide +kernel
theorem oi_La_law_32 : tb_La_law_32.all (ax_okI code 8) = true := by decide +kernel
theorem oi_La_law_33 : tb_La_law_33.all (ax_okI code 8) = true := by decide +kernel
theorem oi_La_law_34 : tb_La_law_34.all (ax_okI code 8) = true := by decide +kernel
end
section
theorem ax_tO_tM : ∀ e ∈ ax_tO, ∀ {q : Nat × Nat}, ¬ ((e, q) ∈ ax_tM) := by
  have h : ax_tM.all (fun e => decide (¬ e.1 ∈ ax_tO)) = true := by decide +kernel
  intro e he q hq
  have := List.all_eq_true.mp h _ hq
  simp only [decide_eq_true_eq] at this
  exact this he
theorem ax_tX_tM : ∀ e ∈ ax_tX.map (fun q => (q.1.1, q.2.2)), ∀ {q : Nat × Nat}, ¬ ((e, q) ∈ ax_tM) := by
  have h : ax_tM.all (fun e => decide (¬ e.1 ∈ ax_tX.map (fun q => (q.1.1, q.2.2)))) = true := by decide +kernel
  intro e he q hq
  have := List.all_eq_true.mp h _ hq
  simp only [decide_eq_true_eq] at this
  exact this he
theorem ax_pr_of {mi : Nat} {q : MethodName × ByteArray × Nat × Nat × Nat} (h : ax_mm[mi]? = some q) : ∃ M, ax_pr[mi]? = some M := by
  have e : ax_mm.length = ax_pr.length := by decide +kernel
  have hl := (List.getElem?_eq_some_iff.mp h).1
  exact ⟨_, List.getElem?_eq_getElem (by rw [← e]; exact hl)⟩
end
section
theorem ax_all_split {α : Type} (f : α → Bool) (n : Nat) (l : List α) (h1 : (l.take n).all f = true) (h2 : (l.drop n).all f = true) : l.all f = true := by
  rw [← List.take_append_drop n l, List.all_append, h1, h2]
  rfl
theorem ax_okM_all : (ax_pr.zip ax_mm).all (fun q => ax_okM q.1 q.2) = true := by
  refine ax_all_split _ 5 _ ax_okM_0 ?_
  refine ax_all_split _ 5 _ ax_okM_5 ?_
  rw [List.drop_drop]
  refine ax_all_split _ 5 _ ax_okM_10 ?_
  rw [List.drop_drop]
  refine ax_all_split _ 5 _ ax_okM_15 ?_
  rw [List.drop_drop]
  refine ax_all_split _ 5 _ ax_okM_20 ?_
  rw [List.drop_drop]
  refine ax_all_split _ 5 _ ax_okM_25 ?_
  rw [List.drop_drop]
  refine ax_all_split _ 5 _ ax_okM_30 ?_
  rw [List.drop_drop]
  refine ax_all_split _ 5 _ ax_okM_35 ?_
  rw [List.drop_drop]
  refine ax_all_split _ 5 _ ax_okM_40 ?_
  rw [List.drop_drop]
  refine ax_all_split _ 5 _ ax_okM_45 ?_
  rw [List.drop_drop]
  refine ax_all_split _ 5 _ ax_okM_50 ?_
  rw [List.drop_drop]
  refine ax_all_split _ 5 _ ax_okM_55 ?_
  rw [List.drop_drop]
  refine ax_all_split _ 5 _ ax_okM_60 ?_
  rw [List.drop_drop]
  refine ax_all_split _ 5 _ ax_okM_65 ?_
  rw [List.drop_drop]
  refine ax_all_split _ 5 _ ax_okM_70 ?_
  rw [List.drop_drop]
  refine ax_all_split _ 5 _ ax_okM_75 ?_
  rw [List.drop_drop]
  refine ax_all_split _ 5 _ ax_okM_80 ?_
  rw [List.drop_drop]
  refine ax_all_split _ 5 _ ax_okM_85 ?_
  rw [List.drop_drop]
  refine ax_all_split _ 5 _ ax_okM_90 ?_
  rw [List.drop_drop]
  refine ax_all_split _ 5 _ ax_okM_95 ?_
  rw [List.drop_drop]
  refine ax_all_split _ 5 _ ax_okM_100 ?_
  rw [List.drop_drop]
  refine ax_all_split _ 5 _ ax_okM_105 ?_
  rw [List.drop_drop]
  refine ax_all_split _ 5 _ ax_okM_110 ?_
  rw [List.drop_drop]
  refine ax_all_split _ 5 _ ax_okM_115 ?_
  rw [List.drop_drop]
  refine ax_all_split _ 5 _ ax_okM_120 ?_
  rw [List.drop_drop]
  exact ax_okM_125
theorem oi_ML_init : tb_ML_init.all (ax_okI prog_1_method_1_code 1) = true := by
  unfold tb_ML_init
  simp only [List.all_append, oi_ML_init_1, oi_ML_init_2, Bool.and_self]
theorem oi_ML_maker : tb_ML_maker.all (ax_okI prog_1_method_3_code 4) = true := by
  unfold tb_ML_maker
  simp only [List.all_append, oi_ML_maker_1, oi_ML_maker_2, Bool.and_self]
theorem oi_ML_thing : tb_ML_thing.all (ax_okI prog_1_method_4_code 5) = true := by
  unfold tb_ML_thing
  simp only [List.all_append, oi_ML_thing_1, oi_ML_thing_2, Bool.and_self]
theorem oi_ML_at : tb_ML_at.all (ax_okI prog_1_method_5_code 6) = true := by
  unfold tb_ML_at
  simp only [List.all_append, oi_ML_at_1, oi_ML_at_2, Bool.and_self]
theorem oi_ML_remark : tb_ML_remark.all (ax_okI prog_1_method_7_code 4) = true := by
  unfold tb_ML_remark
  simp only [List.all_append, oi_ML_remark_1, oi_ML_remark_2, Bool.and_self]
theorem oi_ML_share : tb_ML_share.all (ax_okI prog_1_method_10_code 8) = true := by
  unfold tb_ML_share
  simp only [List.all_append, oi_ML_share_1, oi_ML_share_2, Bool.and_self]
theorem oi_ML_balance : tb_ML_balance.all (ax_okI prog_1_method_11_code 8) = true := by
  unfold tb_ML_balance
  simp only [List.all_append, oi_ML_balance_1, oi_ML_balance_2, Bool.and_self]
theorem oi_ML_copper : tb_ML_copper.all (ax_okI prog_1_method_13_code 7) = true := by
  unfold tb_ML_copper
  simp only [List.all_append, oi_ML_copper_1, oi_ML_copper_2, Bool.and_self]
theorem oi_ML_best : tb_ML_best.all (ax_okI prog_1_method_14_code 9) = true := by
  unfold tb_ML_best
  simp only [List.all_append, oi_ML_best_1, oi_ML_best_2, Bool.and_self]
theorem oi_ML_order : tb_ML_order.all (ax_okI prog_1_method_15_code 12) = true := by
  unfold tb_ML_order
  simp only [List.all_append, oi_ML_order_1, oi_ML_order_2, Bool.and_self]
theorem oi_ML_clear : tb_ML_clear.all (ax_okI prog_1_method_17_code 2) = true := by
  unfold tb_ML_clear
  simp only [List.all_append, oi_ML_clear_1, oi_ML_clear_2, Bool.and_self]
theorem oi_Bd_add : tb_Bd_add.all (ax_okI prog_2_method_2_code 4) = true := by
  unfold tb_Bd_add
  simp only [List.all_append, oi_Bd_add_1, oi_Bd_add_2, Bool.and_self]
theorem oi_Bd_move : tb_Bd_move.all (ax_okI prog_2_method_4_code 5) = true := by
  unfold tb_Bd_move
  simp only [List.all_append, oi_Bd_move_1, oi_Bd_move_2, Bool.and_self]
theorem oi_Ce_tell : tb_Ce_tell.all (ax_okI prog_3_method_3_code 7) = true := by
  unfold tb_Ce_tell
  simp only [List.all_append, oi_Ce_tell_1, oi_Ce_tell_2, Bool.and_self]
theorem oi_Ce_units : tb_Ce_units.all (ax_okI prog_3_method_5_code 5) = true := by
  unfold tb_Ce_units
  simp only [List.all_append, oi_Ce_units_1, oi_Ce_units_2, Bool.and_self]
theorem oi_Gr_addStep : tb_Gr_addStep.all (ax_okI prog_4_method_3_code 4) = true := by
  unfold tb_Gr_addStep
  simp only [List.all_append, oi_Gr_addStep_1, oi_Gr_addStep_2, Bool.and_self]
theorem oi_Gr_priceOf : tb_Gr_priceOf.all (ax_okI prog_4_method_6_code 8) = true := by
  unfold tb_Gr_priceOf
  simp only [List.all_append, oi_Gr_priceOf_1, oi_Gr_priceOf_2, Bool.and_self]
theorem oi_Or_add : tb_Or_add.all (ax_okI prog_6_method_2_code 9) = true := by
  unfold tb_Or_add
  simp only [List.all_append, oi_Or_add_1, oi_Or_add_2, oi_Or_add_3, Bool.and_self]
theorem oi_Qu_add : tb_Qu_add.all (ax_okI prog_7_method_2_code 5) = true := by
  unfold tb_Qu_add
  simp only [List.all_append, oi_Qu_add_1, oi_Qu_add_2, Bool.and_self]
theorem oi_Re_collect : tb_Re_collect.all (ax_okI prog_8_method_2_code 5) = true := by
  unfold tb_Re_collect
  simp only [List.all_append, oi_Re_collect_1, oi_Re_collect_2, Bool.and_self]
theorem oi_Tx_readNumber : tb_Tx_readNumber.all (ax_okI prog_9_method_5_code 3) = true := by
  unfold tb_Tx_readNumber
  simp only [List.all_append, oi_Tx_readNumber_1, oi_Tx_readNumber_2, Bool.and_self]
theorem oi_Tx_readOffer : tb_Tx_readOffer.all (ax_okI prog_9_method_6_code 5) = true := by
  unfold tb_Tx_readOffer
  simp only [List.all_append, oi_Tx_readOffer_1, oi_Tx_readOffer_2, Bool.and_self]
theorem oi_Tx_readGrade : tb_Tx_readGrade.all (ax_okI prog_9_method_7_code 3) = true := by
  unfold tb_Tx_readGrade
  simp only [List.all_append, oi_Tx_readGrade_1, oi_Tx_readGrade_2, Bool.and_self]
theorem oi_Tx_readSteps : tb_Tx_readSteps.all (ax_okI prog_9_method_9_code 5) = true := by
  unfold tb_Tx_readSteps
  simp only [List.all_append, oi_Tx_readSteps_1, oi_Tx_readSteps_2, Bool.and_self]
theorem oi_Tx_readWhole : tb_Tx_readWhole.all (ax_okI prog_9_method_11_code 3) = true := by
  unfold tb_Tx_readWhole
  simp only [List.all_append, oi_Tx_readWhole_1, oi_Tx_readWhole_2, Bool.and_self]
theorem oi_Mo_init : tb_Mo_init.all (ax_okI prog_11_method_1_code 1) = true := by
  unfold tb_Mo_init
  simp only [List.all_append, oi_Mo_init_1, oi_Mo_init_2, oi_Mo_init_3, Bool.and_self]
theorem oi_Mo_empty : tb_Mo_empty.all (ax_okI prog_11_method_2_code 2) = true := by
  unfold tb_Mo_empty
  simp only [List.all_append, oi_Mo_empty_1, oi_Mo_empty_2, Bool.and_self]
theorem oi_Mo_whole : tb_Mo_whole.all (ax_okI prog_11_method_9_code 4) = true := by
  unfold tb_Mo_whole
  simp only [List.all_append, oi_Mo_whole_1, oi_Mo_whole_2, Bool.and_self]
theorem oi_Mo_readClass : tb_Mo_readClass.all (ax_okI prog_11_method_11_code 13) = true := by
  unfold tb_Mo_readClass
  simp only [List.all_append, oi_Mo_readClass_1, oi_Mo_readClass_2, oi_Mo_readClass_3, oi_Mo_readClass_4, oi_Mo_readClass_5, oi_Mo_readClass_6, oi_Mo_readClass_7, Bool.and_self]
theorem oi_Mo_copyClasses : tb_Mo_copyClasses.all (ax_okI prog_11_method_12_code 4) = true := by
  unfold tb_Mo_copyClasses
  simp only [List.all_append, oi_Mo_copyClasses_1, oi_Mo_copyClasses_2, Bool.and_self]
theorem oi_Mo_maker : tb_Mo_maker.all (ax_okI prog_11_method_13_code 3) = true := by
  unfold tb_Mo_maker
  simp only [List.all_append, oi_Mo_maker_1, oi_Mo_maker_2, oi_Mo_maker_3, oi_Mo_maker_4, Bool.and_self]
theorem oi_Mo_thing : tb_Mo_thing.all (ax_okI prog_11_method_15_code 6) = true := by
  unfold tb_Mo_thing
  simp only [List.all_append, oi_Mo_thing_1, oi_Mo_thing_2, oi_Mo_thing_3, Bool.and_self]
theorem oi_Mo_at : tb_Mo_at.all (ax_okI prog_11_method_17_code 6) = true := by
  unfold tb_Mo_at
  simp only [List.all_append, oi_Mo_at_1, oi_Mo_at_2, Bool.and_self]
theorem oi_Mo_beyond : tb_Mo_beyond.all (ax_okI prog_11_method_18_code 6) = true := by
  unfold tb_Mo_beyond
  simp only [List.all_append, oi_Mo_beyond_1, oi_Mo_beyond_2, Bool.and_self]
theorem oi_Mo_run : tb_Mo_run.all (ax_okI prog_11_method_23_code 4) = true := by
  unfold tb_Mo_run
  simp only [List.all_append, oi_Mo_run_1, oi_Mo_run_2, Bool.and_self]
theorem oi_Mo_remark : tb_Mo_remark.all (ax_okI prog_11_method_24_code 4) = true := by
  unfold tb_Mo_remark
  simp only [List.all_append, oi_Mo_remark_1, oi_Mo_remark_2, Bool.and_self]
theorem oi_Mo_priceOf : tb_Mo_priceOf.all (ax_okI prog_11_method_27_code 8) = true := by
  unfold tb_Mo_priceOf
  simp only [List.all_append, oi_Mo_priceOf_1, oi_Mo_priceOf_2, Bool.and_self]
theorem oi_Mo_share : tb_Mo_share.all (ax_okI prog_11_method_29_code 6) = true := by
  unfold tb_Mo_share
  simp only [List.all_append, oi_Mo_share_1, oi_Mo_share_2, Bool.and_self]
theorem oi_Mo_best : tb_Mo_best.all (ax_okI prog_11_method_30_code 8) = true := by
  unfold tb_Mo_best
  simp only [List.all_append, oi_Mo_best_1, oi_Mo_best_2, Bool.and_self]
theorem oi_Mo_copper : tb_Mo_copper.all (ax_okI prog_11_method_32_code 10) = true := by
  unfold tb_Mo_copper
  simp only [List.all_append, oi_Mo_copper_1, oi_Mo_copper_2, oi_Mo_copper_3, Bool.and_self]
theorem oi_Mo_balance : tb_Mo_balance.all (ax_okI prog_11_method_33_code 15) = true := by
  unfold tb_Mo_balance
  simp only [List.all_append, oi_Mo_balance_1, oi_Mo_balance_2, oi_Mo_balance_3, oi_Mo_balance_4, Bool.and_self]
theorem oi_Mo_quote : tb_Mo_quote.all (ax_okI prog_11_method_34_code 4) = true := by
  unfold tb_Mo_quote
  simp only [List.all_append, oi_Mo_quote_1, oi_Mo_quote_2, Bool.and_self]
theorem oi_Mo_order : tb_Mo_order.all (ax_okI prog_11_method_35_code 12) = true := by
  unfold tb_Mo_order
  simp only [List.all_append, oi_Mo_order_1, oi_Mo_order_2, oi_Mo_order_3, oi_Mo_order_4, oi_Mo_order_5, Bool.and_self]
theorem oi_Mo_history : tb_Mo_history.all (ax_okI prog_11_method_36_code 3) = true := by
  unfold tb_Mo_history
  simp only [List.all_append, oi_Mo_history_1, oi_Mo_history_2, Bool.and_self]
theorem oi_La_law : tb_La_law.all (ax_okI code 8) = true := by
  unfold tb_La_law
  simp only [List.all_append, oi_La_law_1, oi_La_law_2, oi_La_law_3, oi_La_law_4, oi_La_law_5, oi_La_law_6, oi_La_law_7, oi_La_law_8, oi_La_law_9, oi_La_law_10, oi_La_law_11, oi_La_law_12, oi_La_law_13, oi_La_law_14, oi_La_law_15, oi_La_law_16, oi_La_law_17, oi_La_law_18, oi_La_law_19, oi_La_law_20, oi_La_law_21, oi_La_law_22, oi_La_law_23, oi_La_law_24, oi_La_law_25, oi_La_law_26, oi_La_law_27, oi_La_law_28, oi_La_law_29, oi_La_law_30, oi_La_law_31, oi_La_law_32, oi_La_law_33, oi_La_law_34, Bool.and_self]
theorem ax_oi_all : ∀ q ∈ ax_pr.zip ax_mm, q.1.2.2.1.all (ax_okI q.2.2.1 q.2.2.2.1) = true :=
  List.forall_mem_cons.mpr ⟨oi_ML_init, List.forall_mem_cons.mpr ⟨oi_ML_unit, List.forall_mem_cons.mpr ⟨oi_ML_maker, List.forall_mem_cons.mpr ⟨oi_ML_thing, List.forall_mem_cons.mpr ⟨oi_ML_at, List.forall_mem_cons.mpr ⟨oi_ML_run, List.forall_mem_cons.mpr ⟨oi_ML_remark, List.forall_mem_cons.mpr ⟨oi_ML_least, List.forall_mem_cons.mpr ⟨oi_ML_price, List.forall_mem_cons.mpr ⟨oi_ML_share, List.forall_mem_cons.mpr ⟨oi_ML_balance, List.forall_mem_cons.mpr ⟨oi_ML_quote, List.forall_mem_cons.mpr ⟨oi_ML_copper, List.forall_mem_cons.mpr ⟨oi_ML_best, List.forall_mem_cons.mpr ⟨oi_ML_order, List.forall_mem_cons.mpr ⟨oi_ML_history, List.forall_mem_cons.mpr ⟨oi_ML_clear, List.forall_mem_cons.mpr ⟨oi_ML_keepOffer, List.forall_mem_cons.mpr ⟨oi_ML_offerOf, List.forall_mem_cons.mpr ⟨oi_ML_gradeOf, List.forall_mem_cons.mpr ⟨oi_ML_checkQuantity, List.forall_mem_cons.mpr ⟨oi_ML_isNoLayer, List.forall_mem_cons.mpr ⟨oi_ML_commonDivisor, List.forall_mem_cons.mpr ⟨oi_Bd_init, List.forall_mem_cons.mpr ⟨oi_Bd_add, List.forall_mem_cons.mpr ⟨oi_Bd_hasNo, List.forall_mem_cons.mpr ⟨oi_Bd_move, List.forall_mem_cons.mpr ⟨oi_Bd_excess, List.forall_mem_cons.mpr ⟨oi_Bd_isMadeBy, List.forall_mem_cons.mpr ⟨oi_Bd_part, List.forall_mem_cons.mpr ⟨oi_Bd_forget, List.forall_mem_cons.mpr ⟨oi_Ce_init, List.forall_mem_cons.mpr ⟨oi_Ce_isNoCell, List.forall_mem_cons.mpr ⟨oi_Ce_tell, List.forall_mem_cons.mpr ⟨oi_Ce_aboveMean, List.forall_mem_cons.mpr ⟨oi_Ce_units, List.forall_mem_cons.mpr ⟨oi_Ce_forget, List.forall_mem_cons.mpr ⟨oi_Gr_init, List.forall_mem_cons.mpr ⟨oi_Gr_setLimit, List.forall_mem_cons.mpr ⟨oi_Gr_addStep, List.forall_mem_cons.mpr ⟨oi_Gr_setDays, List.forall_mem_cons.mpr ⟨oi_Gr_excess, List.forall_mem_cons.mpr ⟨oi_Gr_priceOf, List.forall_mem_cons.mpr ⟨oi_Of_init, List.forall_mem_cons.mpr ⟨oi_Of_add, List.forall_mem_cons.mpr ⟨oi_Of_gradeAt, List.forall_mem_cons.mpr ⟨oi_Of_leastFor, List.forall_mem_cons.mpr ⟨oi_Or_init, List.forall_mem_cons.mpr ⟨oi_Or_add, List.forall_mem_cons.mpr ⟨oi_Or_hasNo, List.forall_mem_cons.mpr ⟨oi_Or_part, List.forall_mem_cons.mpr ⟨oi_Or_forget, List.forall_mem_cons.mpr ⟨oi_Qu_init, List.forall_mem_cons.mpr ⟨oi_Qu_add, List.forall_mem_cons.mpr ⟨oi_Qu_latest, List.forall_mem_cons.mpr ⟨oi_Qu_offerAt, List.forall_mem_cons.mpr ⟨oi_Qu_forget, List.forall_mem_cons.mpr ⟨oi_Re_init, List.forall_mem_cons.mpr ⟨oi_Re_collect, List.forall_mem_cons.mpr ⟨oi_Re_thingOf, List.forall_mem_cons.mpr ⟨oi_Re_excessOf, List.forall_mem_cons.mpr ⟨oi_Re_forget, List.forall_mem_cons.mpr ⟨oi_Tx_init, List.forall_mem_cons.mpr ⟨oi_Tx_add, List.forall_mem_cons.mpr ⟨oi_Tx_forget, List.forall_mem_cons.mpr ⟨oi_Tx_place, List.forall_mem_cons.mpr ⟨oi_Tx_readNumber, List.forall_mem_cons.mpr ⟨oi_Tx_readOffer, List.forall_mem_cons.mpr ⟨oi_Tx_readGrade, List.forall_mem_cons.mpr ⟨oi_Tx_readLimits, List.forall_mem_cons.mpr ⟨oi_Tx_readSteps, List.forall_mem_cons.mpr ⟨oi_Tx_readDays, List.forall_mem_cons.mpr ⟨oi_Tx_readWhole, List.forall_mem_cons.mpr ⟨oi_Tx_passes, List.forall_mem_cons.mpr ⟨oi_Tx_next, List.forall_mem_cons.mpr ⟨oi_Tx_isDigit, List.forall_mem_cons.mpr ⟨oi_Mo_init, List.forall_mem_cons.mpr ⟨oi_Mo_empty, List.forall_mem_cons.mpr ⟨oi_Mo_thrown, List.forall_mem_cons.mpr ⟨oi_Mo_clear, List.forall_mem_cons.mpr ⟨oi_Mo_unit, List.forall_mem_cons.mpr ⟨oi_Mo_now, List.forall_mem_cons.mpr ⟨oi_Mo_expect, List.forall_mem_cons.mpr ⟨oi_Mo_isDigit, List.forall_mem_cons.mpr ⟨oi_Mo_whole, List.forall_mem_cons.mpr ⟨oi_Mo_place, List.forall_mem_cons.mpr ⟨oi_Mo_readClass, List.forall_mem_cons.mpr ⟨oi_Mo_copyClasses, List.forall_mem_cons.mpr ⟨oi_Mo_maker, List.forall_mem_cons.mpr ⟨oi_Mo_isLayer, List.forall_mem_cons.mpr ⟨oi_Mo_thing, List.forall_mem_cons.mpr ⟨oi_Mo_isPlace, List.forall_mem_cons.mpr ⟨oi_Mo_at, List.forall_mem_cons.mpr ⟨oi_Mo_beyond, List.forall_mem_cons.mpr ⟨oi_Mo_makes, List.forall_mem_cons.mpr ⟨oi_Mo_leastOf, List.forall_mem_cons.mpr ⟨oi_Mo_isMaker, List.forall_mem_cons.mpr ⟨oi_Mo_isClass, List.forall_mem_cons.mpr ⟨oi_Mo_run, List.forall_mem_cons.mpr ⟨oi_Mo_remark, List.forall_mem_cons.mpr ⟨oi_Mo_least, List.forall_mem_cons.mpr ⟨oi_Mo_isQuantity, List.forall_mem_cons.mpr ⟨oi_Mo_priceOf, List.forall_mem_cons.mpr ⟨oi_Mo_price, List.forall_mem_cons.mpr ⟨oi_Mo_share, List.forall_mem_cons.mpr ⟨oi_Mo_best, List.forall_mem_cons.mpr ⟨oi_Mo_isCell, List.forall_mem_cons.mpr ⟨oi_Mo_copper, List.forall_mem_cons.mpr ⟨oi_Mo_balance, List.forall_mem_cons.mpr ⟨oi_Mo_quote, List.forall_mem_cons.mpr ⟨oi_Mo_order, List.forall_mem_cons.mpr ⟨oi_Mo_history, List.forall_mem_cons.mpr ⟨oi_La_thing, List.forall_mem_cons.mpr ⟨oi_La_at, List.forall_mem_cons.mpr ⟨oi_La_run, List.forall_mem_cons.mpr ⟨oi_La_remark, List.forall_mem_cons.mpr ⟨oi_La_least, List.forall_mem_cons.mpr ⟨oi_La_price, List.forall_mem_cons.mpr ⟨oi_La_share, List.forall_mem_cons.mpr ⟨oi_La_balance, List.forall_mem_cons.mpr ⟨oi_La_quote, List.forall_mem_cons.mpr ⟨oi_La_copper, List.forall_mem_cons.mpr ⟨oi_La_best, List.forall_mem_cons.mpr ⟨oi_La_order, List.forall_mem_cons.mpr ⟨oi_La_history, List.forall_mem_cons.mpr ⟨oi_La_law, List.forall_mem_cons.mpr ⟨oi_Ar_fill, List.forall_mem_cons.mpr ⟨oi_Ma_maxI, List.forall_mem_cons.mpr ⟨oi_Ma_maxL, List.forall_mem_cons.mpr ⟨oi_Ma_absL, fun _ h => absurd h List.not_mem_nil⟩⟩⟩⟩⟩⟩⟩⟩⟩⟩⟩⟩⟩⟩⟩⟩⟩⟩⟩⟩⟩⟩⟩⟩⟩⟩⟩⟩⟩⟩⟩⟩⟩⟩⟩⟩⟩⟩⟩⟩⟩⟩⟩⟩⟩⟩⟩⟩⟩⟩⟩⟩⟩⟩⟩⟩⟩⟩⟩⟩⟩⟩⟩⟩⟩⟩⟩⟩⟩⟩⟩⟩⟩⟩⟩⟩⟩⟩⟩⟩⟩⟩⟩⟩⟩⟩⟩⟩⟩⟩⟩⟩⟩⟩⟩⟩⟩⟩⟩⟩⟩⟩⟩⟩⟩⟩⟩⟩⟩⟩⟩⟩⟩⟩⟩⟩⟩⟩⟩⟩⟩⟩⟩⟩⟩⟩⟩⟩⟩⟩
theorem ax_zip_in {mi : Nat} {M : ax_M} {q : MethodName × ByteArray × Nat × Nat × Nat} (hpr : ax_pr[mi]? = some M) (hmm : ax_mm[mi]? = some q) : (M, q) ∈ ax_pr.zip ax_mm := by
  refine List.mem_of_getElem? (i := mi) ?_
  rw [List.getElem?_zip_eq_some]
  exact ⟨hpr, hmm⟩
theorem ax_cd_all : ∀ q ∈ ax_pr.zip ax_mm, ax_codeOk q.1 q.2 :=
  List.forall_mem_cons.mpr ⟨Or.inr (Or.inl ⟨rfl, cd_ML_init⟩), List.forall_mem_cons.mpr ⟨Or.inr (Or.inl ⟨rfl, cd_ML_unit⟩), List.forall_mem_cons.mpr ⟨Or.inr (Or.inl ⟨rfl, cd_ML_maker⟩), List.forall_mem_cons.mpr ⟨Or.inr (Or.inl ⟨rfl, cd_ML_thing⟩), List.forall_mem_cons.mpr ⟨Or.inr (Or.inl ⟨rfl, cd_ML_at⟩), List.forall_mem_cons.mpr ⟨Or.inr (Or.inl ⟨rfl, cd_ML_run⟩), List.forall_mem_cons.mpr ⟨Or.inr (Or.inl ⟨rfl, cd_ML_remark⟩), List.forall_mem_cons.mpr ⟨Or.inr (Or.inl ⟨rfl, cd_ML_least⟩), List.forall_mem_cons.mpr ⟨Or.inr (Or.inl ⟨rfl, cd_ML_price⟩), List.forall_mem_cons.mpr ⟨Or.inr (Or.inl ⟨rfl, cd_ML_share⟩), List.forall_mem_cons.mpr ⟨Or.inr (Or.inl ⟨rfl, cd_ML_balance⟩), List.forall_mem_cons.mpr ⟨Or.inr (Or.inl ⟨rfl, cd_ML_quote⟩), List.forall_mem_cons.mpr ⟨Or.inr (Or.inl ⟨rfl, cd_ML_copper⟩), List.forall_mem_cons.mpr ⟨Or.inr (Or.inl ⟨rfl, cd_ML_best⟩), List.forall_mem_cons.mpr ⟨Or.inr (Or.inl ⟨rfl, cd_ML_order⟩), List.forall_mem_cons.mpr ⟨Or.inr (Or.inl ⟨rfl, cd_ML_history⟩), List.forall_mem_cons.mpr ⟨Or.inr (Or.inl ⟨rfl, cd_ML_clear⟩), List.forall_mem_cons.mpr ⟨Or.inr (Or.inl ⟨rfl, cd_ML_keepOffer⟩), List.forall_mem_cons.mpr ⟨Or.inr (Or.inl ⟨rfl, cd_ML_offerOf⟩), List.forall_mem_cons.mpr ⟨Or.inr (Or.inl ⟨rfl, cd_ML_gradeOf⟩), List.forall_mem_cons.mpr ⟨Or.inr (Or.inl ⟨rfl, cd_ML_checkQuantity⟩), List.forall_mem_cons.mpr ⟨Or.inr (Or.inl ⟨rfl, cd_ML_isNoLayer⟩), List.forall_mem_cons.mpr ⟨Or.inr (Or.inl ⟨rfl, cd_ML_commonDivisor⟩), List.forall_mem_cons.mpr ⟨Or.inr (Or.inl ⟨rfl, cd_Bd_init⟩), List.forall_mem_cons.mpr ⟨Or.inr (Or.inl ⟨rfl, cd_Bd_add⟩), List.forall_mem_cons.mpr ⟨Or.inr (Or.inl ⟨rfl, cd_Bd_hasNo⟩), List.forall_mem_cons.mpr ⟨Or.inr (Or.inl ⟨rfl, cd_Bd_move⟩), List.forall_mem_cons.mpr ⟨Or.inr (Or.inl ⟨rfl, cd_Bd_excess⟩), List.forall_mem_cons.mpr ⟨Or.inr (Or.inl ⟨rfl, cd_Bd_isMadeBy⟩), List.forall_mem_cons.mpr ⟨Or.inr (Or.inl ⟨rfl, cd_Bd_part⟩), List.forall_mem_cons.mpr ⟨Or.inr (Or.inl ⟨rfl, cd_Bd_forget⟩), List.forall_mem_cons.mpr ⟨Or.inr (Or.inl ⟨rfl, cd_Ce_init⟩), List.forall_mem_cons.mpr ⟨Or.inr (Or.inl ⟨rfl, cd_Ce_isNoCell⟩), List.forall_mem_cons.mpr ⟨Or.inr (Or.inl ⟨rfl, cd_Ce_tell⟩), List.forall_mem_cons.mpr ⟨Or.inr (Or.inl ⟨rfl, cd_Ce_aboveMean⟩), List.forall_mem_cons.mpr ⟨Or.inr (Or.inl ⟨rfl, cd_Ce_units⟩), List.forall_mem_cons.mpr ⟨Or.inr (Or.inl ⟨rfl, cd_Ce_forget⟩), List.forall_mem_cons.mpr ⟨Or.inr (Or.inl ⟨rfl, cd_Gr_init⟩), List.forall_mem_cons.mpr ⟨Or.inr (Or.inl ⟨rfl, cd_Gr_setLimit⟩), List.forall_mem_cons.mpr ⟨Or.inr (Or.inl ⟨rfl, cd_Gr_addStep⟩), List.forall_mem_cons.mpr ⟨Or.inr (Or.inl ⟨rfl, cd_Gr_setDays⟩), List.forall_mem_cons.mpr ⟨Or.inr (Or.inl ⟨rfl, cd_Gr_excess⟩), List.forall_mem_cons.mpr ⟨Or.inr (Or.inl ⟨rfl, cd_Gr_priceOf⟩), List.forall_mem_cons.mpr ⟨Or.inr (Or.inl ⟨rfl, cd_Of_init⟩), List.forall_mem_cons.mpr ⟨Or.inr (Or.inl ⟨rfl, cd_Of_add⟩), List.forall_mem_cons.mpr ⟨Or.inr (Or.inl ⟨rfl, cd_Of_gradeAt⟩), List.forall_mem_cons.mpr ⟨Or.inr (Or.inl ⟨rfl, cd_Of_leastFor⟩), List.forall_mem_cons.mpr ⟨Or.inr (Or.inl ⟨rfl, cd_Or_init⟩), List.forall_mem_cons.mpr ⟨Or.inr (Or.inl ⟨rfl, cd_Or_add⟩), List.forall_mem_cons.mpr ⟨Or.inr (Or.inl ⟨rfl, cd_Or_hasNo⟩), List.forall_mem_cons.mpr ⟨Or.inr (Or.inl ⟨rfl, cd_Or_part⟩), List.forall_mem_cons.mpr ⟨Or.inr (Or.inl ⟨rfl, cd_Or_forget⟩), List.forall_mem_cons.mpr ⟨Or.inr (Or.inl ⟨rfl, cd_Qu_init⟩), List.forall_mem_cons.mpr ⟨Or.inr (Or.inl ⟨rfl, cd_Qu_add⟩), List.forall_mem_cons.mpr ⟨Or.inr (Or.inl ⟨rfl, cd_Qu_latest⟩), List.forall_mem_cons.mpr ⟨Or.inr (Or.inl ⟨rfl, cd_Qu_offerAt⟩), List.forall_mem_cons.mpr ⟨Or.inr (Or.inl ⟨rfl, cd_Qu_forget⟩), List.forall_mem_cons.mpr ⟨Or.inr (Or.inl ⟨rfl, cd_Re_init⟩), List.forall_mem_cons.mpr ⟨Or.inr (Or.inl ⟨rfl, cd_Re_collect⟩), List.forall_mem_cons.mpr ⟨Or.inr (Or.inl ⟨rfl, cd_Re_thingOf⟩), List.forall_mem_cons.mpr ⟨Or.inr (Or.inl ⟨rfl, cd_Re_excessOf⟩), List.forall_mem_cons.mpr ⟨Or.inr (Or.inl ⟨rfl, cd_Re_forget⟩), List.forall_mem_cons.mpr ⟨Or.inr (Or.inl ⟨rfl, cd_Tx_init⟩), List.forall_mem_cons.mpr ⟨Or.inr (Or.inl ⟨rfl, cd_Tx_add⟩), List.forall_mem_cons.mpr ⟨Or.inr (Or.inl ⟨rfl, cd_Tx_forget⟩), List.forall_mem_cons.mpr ⟨Or.inr (Or.inl ⟨rfl, cd_Tx_place⟩), List.forall_mem_cons.mpr ⟨Or.inr (Or.inl ⟨rfl, cd_Tx_readNumber⟩), List.forall_mem_cons.mpr ⟨Or.inr (Or.inl ⟨rfl, cd_Tx_readOffer⟩), List.forall_mem_cons.mpr ⟨Or.inr (Or.inl ⟨rfl, cd_Tx_readGrade⟩), List.forall_mem_cons.mpr ⟨Or.inr (Or.inl ⟨rfl, cd_Tx_readLimits⟩), List.forall_mem_cons.mpr ⟨Or.inr (Or.inl ⟨rfl, cd_Tx_readSteps⟩), List.forall_mem_cons.mpr ⟨Or.inr (Or.inl ⟨rfl, cd_Tx_readDays⟩), List.forall_mem_cons.mpr ⟨Or.inr (Or.inl ⟨rfl, cd_Tx_readWhole⟩), List.forall_mem_cons.mpr ⟨Or.inr (Or.inl ⟨rfl, cd_Tx_passes⟩), List.forall_mem_cons.mpr ⟨Or.inr (Or.inl ⟨rfl, cd_Tx_next⟩), List.forall_mem_cons.mpr ⟨Or.inr (Or.inl ⟨rfl, cd_Tx_isDigit⟩), List.forall_mem_cons.mpr ⟨Or.inr (Or.inl ⟨rfl, cd_Mo_init⟩), List.forall_mem_cons.mpr ⟨Or.inr (Or.inl ⟨rfl, cd_Mo_empty⟩), List.forall_mem_cons.mpr ⟨Or.inr (Or.inl ⟨rfl, cd_Mo_thrown⟩), List.forall_mem_cons.mpr ⟨Or.inr (Or.inl ⟨rfl, cd_Mo_clear⟩), List.forall_mem_cons.mpr ⟨Or.inr (Or.inl ⟨rfl, cd_Mo_unit⟩), List.forall_mem_cons.mpr ⟨Or.inr (Or.inl ⟨rfl, cd_Mo_now⟩), List.forall_mem_cons.mpr ⟨Or.inr (Or.inl ⟨rfl, cd_Mo_expect⟩), List.forall_mem_cons.mpr ⟨Or.inr (Or.inl ⟨rfl, cd_Mo_isDigit⟩), List.forall_mem_cons.mpr ⟨Or.inr (Or.inl ⟨rfl, cd_Mo_whole⟩), List.forall_mem_cons.mpr ⟨Or.inr (Or.inl ⟨rfl, cd_Mo_place⟩), List.forall_mem_cons.mpr ⟨Or.inr (Or.inl ⟨rfl, cd_Mo_readClass⟩), List.forall_mem_cons.mpr ⟨Or.inr (Or.inl ⟨rfl, cd_Mo_copyClasses⟩), List.forall_mem_cons.mpr ⟨Or.inr (Or.inl ⟨rfl, cd_Mo_maker⟩), List.forall_mem_cons.mpr ⟨Or.inr (Or.inl ⟨rfl, cd_Mo_isLayer⟩), List.forall_mem_cons.mpr ⟨Or.inr (Or.inl ⟨rfl, cd_Mo_thing⟩), List.forall_mem_cons.mpr ⟨Or.inr (Or.inl ⟨rfl, cd_Mo_isPlace⟩), List.forall_mem_cons.mpr ⟨Or.inr (Or.inl ⟨rfl, cd_Mo_at⟩), List.forall_mem_cons.mpr ⟨Or.inr (Or.inl ⟨rfl, cd_Mo_beyond⟩), List.forall_mem_cons.mpr ⟨Or.inr (Or.inl ⟨rfl, cd_Mo_makes⟩), List.forall_mem_cons.mpr ⟨Or.inr (Or.inl ⟨rfl, cd_Mo_leastOf⟩), List.forall_mem_cons.mpr ⟨Or.inr (Or.inl ⟨rfl, cd_Mo_isMaker⟩), List.forall_mem_cons.mpr ⟨Or.inr (Or.inl ⟨rfl, cd_Mo_isClass⟩), List.forall_mem_cons.mpr ⟨Or.inr (Or.inl ⟨rfl, cd_Mo_run⟩), List.forall_mem_cons.mpr ⟨Or.inr (Or.inl ⟨rfl, cd_Mo_remark⟩), List.forall_mem_cons.mpr ⟨Or.inr (Or.inl ⟨rfl, cd_Mo_least⟩), List.forall_mem_cons.mpr ⟨Or.inr (Or.inl ⟨rfl, cd_Mo_isQuantity⟩), List.forall_mem_cons.mpr ⟨Or.inr (Or.inl ⟨rfl, cd_Mo_priceOf⟩), List.forall_mem_cons.mpr ⟨Or.inr (Or.inl ⟨rfl, cd_Mo_price⟩), List.forall_mem_cons.mpr ⟨Or.inr (Or.inl ⟨rfl, cd_Mo_share⟩), List.forall_mem_cons.mpr ⟨Or.inr (Or.inl ⟨rfl, cd_Mo_best⟩), List.forall_mem_cons.mpr ⟨Or.inr (Or.inl ⟨rfl, cd_Mo_isCell⟩), List.forall_mem_cons.mpr ⟨Or.inr (Or.inl ⟨rfl, cd_Mo_copper⟩), List.forall_mem_cons.mpr ⟨Or.inr (Or.inl ⟨rfl, cd_Mo_balance⟩), List.forall_mem_cons.mpr ⟨Or.inr (Or.inl ⟨rfl, cd_Mo_quote⟩), List.forall_mem_cons.mpr ⟨Or.inr (Or.inl ⟨rfl, cd_Mo_order⟩), List.forall_mem_cons.mpr ⟨Or.inr (Or.inl ⟨rfl, cd_Mo_history⟩), List.forall_mem_cons.mpr ⟨Or.inr (Or.inr ⟨List.cons_ne_nil _ _, cd_La_thing⟩), List.forall_mem_cons.mpr ⟨Or.inr (Or.inr ⟨List.cons_ne_nil _ _, cd_La_at⟩), List.forall_mem_cons.mpr ⟨Or.inr (Or.inr ⟨List.cons_ne_nil _ _, cd_La_run⟩), List.forall_mem_cons.mpr ⟨Or.inr (Or.inr ⟨List.cons_ne_nil _ _, cd_La_remark⟩), List.forall_mem_cons.mpr ⟨Or.inr (Or.inr ⟨List.cons_ne_nil _ _, cd_La_least⟩), List.forall_mem_cons.mpr ⟨Or.inr (Or.inr ⟨List.cons_ne_nil _ _, cd_La_price⟩), List.forall_mem_cons.mpr ⟨Or.inr (Or.inr ⟨List.cons_ne_nil _ _, cd_La_share⟩), List.forall_mem_cons.mpr ⟨Or.inr (Or.inr ⟨List.cons_ne_nil _ _, cd_La_balance⟩), List.forall_mem_cons.mpr ⟨Or.inr (Or.inr ⟨List.cons_ne_nil _ _, cd_La_quote⟩), List.forall_mem_cons.mpr ⟨Or.inr (Or.inr ⟨List.cons_ne_nil _ _, cd_La_copper⟩), List.forall_mem_cons.mpr ⟨Or.inr (Or.inr ⟨List.cons_ne_nil _ _, cd_La_best⟩), List.forall_mem_cons.mpr ⟨Or.inr (Or.inr ⟨List.cons_ne_nil _ _, cd_La_order⟩), List.forall_mem_cons.mpr ⟨Or.inr (Or.inr ⟨List.cons_ne_nil _ _, cd_La_history⟩), List.forall_mem_cons.mpr ⟨Or.inl rfl, List.forall_mem_cons.mpr ⟨Or.inr (Or.inl ⟨rfl, cd_Ar_fill⟩), List.forall_mem_cons.mpr ⟨Or.inr (Or.inl ⟨rfl, cd_Ma_maxI⟩), List.forall_mem_cons.mpr ⟨Or.inr (Or.inl ⟨rfl, cd_Ma_maxL⟩), List.forall_mem_cons.mpr ⟨Or.inr (Or.inl ⟨rfl, cd_Ma_absL⟩), fun _ h => absurd h List.not_mem_nil⟩⟩⟩⟩⟩⟩⟩⟩⟩⟩⟩⟩⟩⟩⟩⟩⟩⟩⟩⟩⟩⟩⟩⟩⟩⟩⟩⟩⟩⟩⟩⟩⟩⟩⟩⟩⟩⟩⟩⟩⟩⟩⟩⟩⟩⟩⟩⟩⟩⟩⟩⟩⟩⟩⟩⟩⟩⟩⟩⟩⟩⟩⟩⟩⟩⟩⟩⟩⟩⟩⟩⟩⟩⟩⟩⟩⟩⟩⟩⟩⟩⟩⟩⟩⟩⟩⟩⟩⟩⟩⟩⟩⟩⟩⟩⟩⟩⟩⟩⟩⟩⟩⟩⟩⟩⟩⟩⟩⟩⟩⟩⟩⟩⟩⟩⟩⟩⟩⟩⟩⟩⟩⟩⟩⟩⟩⟩⟩⟩⟩
theorem ax_mt_ok (mi : Nat) (M : ax_M) (q : MethodName × ByteArray × Nat × Nat × Nat) (hpr : ax_pr[mi]? = some M) (hmm : ax_mm[mi]? = some q) : M.2.2.1.all (ax_okI q.2.1 q.2.2.1) = true ∧ plainFor q.1 = true ∧ (M.2.2.2.2 = true → q.1.name = "<init>") ∧ q.1.cls = ax_cn M.1 ∧ ax_codeOk M q ∧ M.2.2.1.all (fun e => ax_okC q.2.2.2.1 q.2.2.2.2 M.1 e.2.1) = true ∧ ax_hsok M.1 M.2.2.2.1 = true := by
  have hin := ax_zip_in hpr hmm
  have h1 := ax_oi_all _ hin
  have h2 := List.all_eq_true.mp ax_okM_all _ hin
  simp only [ax_okM, Bool.and_eq_true, Bool.or_eq_true, decide_eq_true_eq, Bool.not_eq_true'] at h2
  obtain ⟨⟨⟨⟨a1, a2⟩, a3⟩, a4⟩, a5⟩ := h2
  refine ⟨h1, a2, fun hi => ?_, a4, ax_cd_all _ hin, a1, a5⟩
  rcases a3 with a3 | a3
  · rw [hi] at a3; cases a3
  · exact a3
end
section
/-! what the throwing of an exception asks of Throwable's statics, which lie below base -/
def ax_tw1 (base : Nat) (C n d : String) (s : State) : Prop :=
  (Jvm.Cond.laysStatic C n d).before #[] s = true ∧ (Jvm.Cond.isRef (.static C n d)).before #[] s = true ∧ ∀ c k i f a, s.fieldFound? C n d = some (c, k, i, f) → k.statics = some a → a < base
def ax_tws (base : Nat) (s : State) : Prop := ax_tw1 base Bundle.tN "UNASSIGNED_STACK" Bundle.steD s ∧ ax_tw1 base Bundle.tN "SUPPRESSED_SENTINEL" Bundle.listD s
theorem ax_tw1_keep {base : Nat} {C n d : String} {s U : State} (hal : s.vm.Alike U.vm) (hq : ∀ q : Nat, q < base → U.heap[q]? = s.heap[q]?) (h : ax_tw1 base C n d s) : ax_tw1 base C n d U := by
  obtain ⟨hl, hr, hb⟩ := h
  obtain ⟨c, k, i, f, a, cell, hc, hi, hst, ha, hcell, hs, hcls, hlt, hty⟩ := Cond.laysStatic_spec hl
  obtain ⟨k', hi', he⟩ := State.fieldFound?_setVm hal hi
  have hi' : U.fieldFound? C n d = some (c, k', i, f) := hi'
  have ha' : k'.statics = some a := by rw [he]; exact ha
  have hty' : k'.staticTypes[f.slot]? = some f.type := by rw [he]; exact hty
  have hab := hb c k i f a hi ha
  have hcell' : U.heap[a]? = some cell := by rw [hq a hab]; exact hcell
  have hc' : U.vm.findClass C = some c := by rw [hal.findClass]; exact hc
  refine ⟨?_, ?_, fun c2 k2 i2 f2 a2 h1 h2 => ?_⟩
  · simp [Cond.before, Cond.holds, Cond.value, hc', hi', ha', hcell', hst, hs, hcls, hlt, hty']
  · cases hv : (Term.static C n d).eval #[] s none [] s with
    | none => simp [Cond.before, Cond.holds, Cond.value, hv] at hr
    | some w =>
      obtain ⟨-, a1, cell1, e1, e2, -, e3⟩ := Term.static_spec hi hv
      cases ha.symm.trans e1
      cases hcell.symm.trans e2
      have hv' : (Term.static C n d).eval #[] U none [] U = some w := by
        simp [Term.eval, State.fieldNamed?, hi', hst, ha', hcell', hs, e3]
      simp only [Cond.before, Cond.holds, Cond.value, hv] at hr
      simp only [Cond.before, Cond.holds, Cond.value, hv']
      exact hr
  · cases hi'.symm.trans h1
    cases ha'.symm.trans h2
    exact hab
theorem ax_tws_keep {base : Nat} {s U : State} (hal : s.vm.Alike U.vm) (hq : ∀ q : Nat, q < base → U.heap[q]? = s.heap[q]?) (h : ax_tws base s) : ax_tws base U := ⟨ax_tw1_keep hal hq h.1, ax_tw1_keep hal hq h.2⟩
/-- what lies below base is as it was, where only cells from base on were written -/
theorem ax_same_low {base : Nat} {s t : State} {L : List Loc} {k n : Nat} (h : s.sameButNew t L k n) (hL : ∀ q ∈ L, base ≤ q.base) (hs : base ≤ s.heap.size) : ∀ q : Nat, q < base → t.heap[q]? = s.heap[q]? := by
  obtain ⟨-, h1, -, -, -, h2⟩ := h
  intro q hq
  have hlt : q < s.heap.size := by omega
  obtain ⟨c, hc⟩ : ∃ c, s.heap[q]? = some c := ⟨s.heap[q], Array.getElem?_eq_getElem hlt⟩
  obtain ⟨c', e1, e2, e3, e4⟩ := h2 q c hc
  rw [e1, hc]
  have hsl : c'.slots = c.slots := by
    apply Array.ext_getElem?
    intro i
    exact e4 i (fun z => absurd (hL _ z) (by show ¬ base ≤ q; omega))
  rw [e2, hsl]
section AxLow
variable {base : Nat} {p : Program} {l : Launch} {e : Env} {R : Room} {s : State} {m : MethodId} {args : Array Value} {below : List Frame} {meth : Method} {c : Code} {T : State} {locs : List Loc} {cells slots : Nat}
theorem ax_low (X : Stand p l e R s m args below meth c T locs cells slots) (hlo : ∀ q ∈ locs, base ≤ q.base) (hs : base ≤ s.heap.size) : ∀ q : Nat, q < base → T.heap[q]? = s.heap[q]? := fun q hq => ax_same_low X.same hlo hs q hq
/-- the walk as seen from where it stands now: nothing is written or made yet -/
theorem ax_reroot (X : Stand p l e R s m args below meth c T locs cells slots) {R' : Room} (hf : R'.frames ≤ R.frames) (hl : R'.locals ≤ R.locals) (hc : cells + R'.cells ≤ R.cells) (hs : slots + R'.slots ≤ R.slots) : Stand p l e R' (T.setFrames (.invoking m args :: below)) m args below meth c T [] 0 0 := by
  obtain ⟨g₀, hfr⟩ := X.frames_eq
  have hcur : T.cur < T.threads.size := State.cur_lt_of_frames hfr
  have hF : (T.setFrames (.invoking m args :: below)).frames = .invoking m args :: below := State.frames_setFrames _ hcur
  obtain ⟨th, hth, -⟩ := State.frames_cons hfr
  obtain ⟨th2, hth2, -⟩ := State.frames_cons hF
  refine ⟨X.admits, X.cas, X.clock, hF, ?_, ?_, X.method', X.code, X.here, X.tail, State.WarmedH.refl (T.setFrames (.invoking m args :: below)), (State.stackLimits_setFrames ..).symm, (State.stackBytes_setFrames ..).symm, ?_⟩
  · obtain ⟨r1, r2, r3, r4⟩ := State.hasRoom_stack X.room
    have r5 := State.hasRoom_real X.room
    have h := X.room
    simp only [State.hasRoom, Bool.and_eq_true, decide_eq_true_eq] at h
    rw [State.localsInUse_invoking X.frames X.method X.code] at r3 r4 r5
    rw [X.frames, List.length_cons] at r1 r2
    have hU : (T.setFrames (.invoking m args :: below)).localsInUse = stackWeight below + vmFrameWords + (c.maxLocals + 11) := State.localsInUse_invoking hF X.method' X.code
    simp only [State.hasRoom, Bool.and_eq_true, decide_eq_true_eq, hF, hU, List.length_cons, State.stackLimits_setFrames, State.stackBytes_setFrames, X.limits, X.bytes]
    have h6 := X.heapSize
    have h7 := X.used
    refine ⟨⟨⟨⟨by omega, by omega, by omega, by omega, by omega, h.1.1.1.2.2.2.2.2⟩, ?_⟩, ?_⟩, X.book⟩
    · have := h.1.1.2
      show T.heap.size + R'.cells ≤ e.platform.maxCells
      omega
    · have := h.1.2
      show T.slotsUsed + R'.slots ≤ e.platform.maxSlots
      omega
  · have hcode : ∀ mm, (T.setFrames (.invoking m args :: below)).code? mm = s.code? mm := fun mm => by
      rw [State.code?_eq, State.code?_eq]
      show (T.vm.method? mm).bind _ = _
      rw [X.warmed.alike.method?]
    have hme : (T.setFrames (.invoking m args :: below)).vm.method? m = s.vm.method? m := X.warmed.alike.method? ..
    have hh := X.hears
    cases below with
    | nil => simp only [State.hears, hme] at hh ⊢; exact hh
    | cons f r => cases f <;> simp only [State.hears, hcode, hme] at hh ⊢ <;> exact hh
  · have q := (State.sameButNew.refl (T.setFrames (.invoking m args :: below)) hth2).setFrames T.frames (State.cur_lt_of_frames hF)
    rw [State.setFrames_setFrames, State.setFrames_self hth] at q
    exact q
end AxLow
theorem ax_weaken {tb : Tables} {e : Env} {f : Frame} {below : List Frame} {x y : State} (h : Steps tb e (f :: below) x y) : Steps tb e below x y := by
  obtain ⟨n, hn, w⟩ := h
  exact ⟨n, hn, fun k hk => Within.weaken (mid := [f]) (w k hk)⟩
section AxCtx
variable (D : va_G) (dA : Nat → ClassId) (b base : Nat)
/-- a method's body stands: its code, its class, the words of the tables -/
def ax_ctx (p : Program) (e : Env) (R : Room) (s : State) (m : MethodId) (args : Array Value) (meth : Method) (c : Code) (M : ax_M) (y : MethodName) (bs : ByteArray) (nL fr lo : Nat) : Prop :=
  b < base ∧ p.tables.exec = Jvm.exec ∧ c.code = bs ∧ c.maxLocals = nL ∧ meth.sig.returnType = M.2.1 ∧ meth.locks = false ∧ c.exceptionTable.toList.map (fun h => (h.startPc, h.endPc, h.handlerPc, h.catchType)) = M.2.2.2.1 ∧
  s.vm.findClass (ax_cn M.1) = some m.cls ∧ meth.name = y.name ∧ (∀ w ∈ lw_tbl, ax_gw w = true → w.before args s = true) ∧ va_K D classes (ax_tys dA) s ∧ ax_tws base s ∧ va_Nc (ax_en 1) (ax_en 0) s ∧ va_Nc (ax_en 0) (ax_en 1) s ∧ base ≤ s.heap.size ∧ fr ≤ R.frames ∧ lo ≤ R.locals ∧ e.platform.stackTraces = false
/-- a method's run, said of the machine -/
def ax_Snd (l : Launch) (mi : Nat) (as : List Value) (h : ax_H) (r : ax_R) : Prop :=
  h.1.length ≤ r.2.1.length ∧ h.2 ≤ r.2.2 ∧ ∀ (M : ax_M) (y : MethodName) (bs : ByteArray) (nL fr lo : Nat), ax_pr[mi]? = some M → ax_mm[mi]? = some (y, bs, nL, fr, lo) →
    ∀ (p : Program) (e : Env) (R : Room) (s : State) (m : MethodId) (below : List Frame) (meth : Method) (c : Code), ax_ctx D dA b base p e R s m (as.map (ax_v b base)).toArray meth c M y bs nL fr lo → r.2.1.length - h.1.length ≤ R.cells → r.2.2 - h.2 ≤ R.slots →
      ax_rep D dA b base s h s.heap → W p l e R s m (as.map (ax_v b base)).toArray below meth c s.heap [] 0 0 (ax_Q D dA b base below s h r) (entryFrame m (as.map (ax_v b base)).toArray nL)
end AxCtx
section AxIn
variable {D : va_G} {dA : Nat → ClassId} {b base : Nat} {p : Program} {l : Launch} {e : Env} {R : Room} {s : State} {m : MethodId} {args : Array Value} {below : List Frame} {meth : Method} {c : Code} {T : State} {locs : List Loc} {cells slots : Nat}
/-- a callee's method, and its context, out of the caller's -/
theorem ax_into (hbb : b < base) (X : Stand p l e R s m args below meth c T locs cells slots) (hx : p.tables.exec = Jvm.exec) (hG : ∀ w ∈ lw_tbl, ax_gw w = true → w.before args s = true) (hK : va_K D classes (ax_tys dA) s) (hTw : ax_tws base s) (hNc : va_Nc (ax_en 1) (ax_en 0) s) (hNd : va_Nc (ax_en 0) (ax_en 1) s) (hlo0 : ∀ q ∈ locs, base ≤ q.base) (hbs0 : base ≤ s.heap.size) (htr : e.platform.stackTraces = false)
    {g : JFrame} (hg : g.method = m) (hsize : g.locals.size = c.maxLocals) {ig : Instr} (hdg : decode c.code g.pc = .ok (ig, 3)) {mi : Nat} {M1 : ax_M} {y1 : MethodName} {bs1 : ByteArray} {nL1 fr1 lo1 : Nat} (hpr : ax_pr[mi]? = some M1) (hmm : ax_mm[mi]? = some (y1, bs1, nL1, fr1, lo1)) (hyx : y1 ≠ x) {mk : MethodId} (hn : s.methodNamed? y1 = some mk)
    (hfr : fr1 + 1 ≤ R.frames) (hlo : 2 * g.monitorRoom + (g.stack.map fun v => v.category).sum + (nL1 + 11) + lo1 ≤ R.locals) {as : List Value} {h : ax_H} {r1 : ax_R} (hcells : cells + (r1.2.1.length - h.1.length) ≤ R.cells) (hslots : slots + (r1.2.2 - h.2) ≤ R.slots) (hrep : ax_rep D dA b base s h T.heap) (hS : ax_Snd D dA b base l mi as h r1) :
    ∃ (t : State) (o : Outcome), (∀ acts, Steps p.tables e below (doInvoke e (T.setTop g) acts mk (as.map (ax_v b base)).toArray).1 t) ∧ Ended t (.java g :: below) o ∧ ax_end D dA b base (T.calling g mk (as.map (ax_v b base)).toArray) h r1 o t := by
  obtain ⟨hoky, hpl, hini, hcls, hco0, -, -⟩ := ax_mt_ok mi M1 _ hpr hmm
  have hco := hco0.resolve_left hyx
  have hal : s.vm.Alike T.vm := X.warmed.alike
  have hmeth : ∃ meth1 c1, s.vm.method? mk = some meth1 ∧ meth1.code = some c1 ∧ c1.code = bs1 ∧ c1.maxLocals = nL1 ∧ meth1.sig.returnType = M1.2.1 ∧ meth1.locks = false ∧ c1.exceptionTable.toList.map (fun h => (h.startPc, h.endPc, h.handlerPc, h.catchType)) = M1.2.2.2.1 := by
    rcases hco with ⟨he, hw⟩ | ⟨-, hw⟩
    · obtain ⟨meth1, c1, q1, q2, q3, q4, q5, q6, q7, -⟩ := Cond.code_spec hn (hG _ hw.1 hw.2)
      refine ⟨meth1, c1, q1, q2, q3, q4, q5, q6, ?_⟩
      rw [he, Array.isEmpty_iff.mp q7]
      rfl
    · obtain ⟨mk', meth1, c1, q0, q1, q2, q3, q4, q5, q6, q7, -⟩ := Cond.codeWith_spec (hG _ hw.1 hw.2)
      cases hn.symm.trans q0
      exact ⟨meth1, c1, q1, q2, q3, q4, q6, q7, q5⟩
  obtain ⟨meth1, c1, q1, q2, q3, q4, q5, q6, q7⟩ := hmeth
  have hmk : T.vm.method? mk = some meth1 := by rw [hal.method?]; exact q1
  have hnT : T.methodNamed? y1 = some mk := X.named hn
  have hpk : T.plainMethod mk := State.plainMethod.of_named (s := T) hpl hnT hmk
  obtain ⟨Y₀, hin⟩ := X.into hg hsize hdg (as.map (ax_v b base)).toArray (R' := { frames := fr1, cells := r1.2.1.length - h.1.length, slots := r1.2.2 - h.2, locals := lo1 }) hmk q2 q6 hpk hfr (by rw [q4]; exact hlo) hcells hslots
  have hnC : (T.calling g mk (as.map (ax_v b base)).toArray).methodNamed? y1 = some mk := hnT
  have hctx : ax_ctx D dA b base p e { frames := fr1, cells := r1.2.1.length - h.1.length, slots := r1.2.2 - h.2, locals := lo1 } (T.calling g mk (as.map (ax_v b base)).toArray) mk (as.map (ax_v b base)).toArray meth1 c1 M1 y1 bs1 nL1 fr1 lo1 := by
    refine ⟨hbb, hx, q3, q4, q5, q6, q7, ?_, (name_of_methodNamed hnC hmk).1, fun w hw hg1 => ax_gw_keep hg1 (s := s) (U := T.calling g mk (as.map (ax_v b base)).toArray) X.warmed (hG w hw hg1), hK.moved hal, ax_tws_keep (s := s) (U := T.calling g mk (as.map (ax_v b base)).toArray) hal (fun q hq => (ax_low X hlo0 hbs0 q hq : T.heap[q]? = s.heap[q]?)) hTw, va_Nc.moved hal hNc, va_Nc.moved hal hNd, (by have := X.same.2.1; show base ≤ T.heap.size; exact Nat.le_trans hbs0 this), Nat.le_refl _, Nat.le_refl _, htr⟩
    rw [← hcls]
    exact findClass_of_methodNamed hnC
  obtain ⟨t, hst, o, -, hend, hE⟩ := hS.2.2 M1 y1 bs1 nL1 fr1 lo1 hpr hmm p e _ _ mk (.java g :: below) meth1 c1 hctx (Nat.le_refl _) (Nat.le_refl _) (ax_rep_moved (U := T.calling g mk (as.map (ax_v b base)).toArray) hal hrep) ((T.setTop g).pushFrame (.java (entryFrame mk (as.map (ax_v b base)).toArray c1.maxLocals))) rfl Y₀
  refine ⟨t, o, fun acts => ?_, hend, hE⟩
  rw [hin acts]
  rw [← q4] at hst
  exact ax_weaken hst
/-- behind a call that has returned -/
theorem ax_back (X : Stand p l e R s m args below meth c T locs cells slots) {g : JFrame} (hg : g.method = m) {ig : Instr} (hdg : decode c.code g.pc = .ok (ig, 3)) {mk : MethodId} {a : Array Value} {h h1 : ax_H} {v : Option Value} {t : State} {o : Outcome} (hend : Ended t (.java g :: below) o) (hE : ax_end D dA b base (T.calling g mk a) h (.inl v, h1) o t) :
    ∃ (T' : State) (L : List Loc), Stand p l e R s m args below meth c T' (locs ++ L) (cells + (h1.1.length - h.1.length)) (slots + (h1.2 - h.2)) ∧ (∀ q ∈ L, base ≤ q.base) ∧ ax_rep D dA b base s h1 T'.heap ∧ t = T'.setTop { g with pc := g.pc + 3, stack := (v.map (ax_v b base)).toList ++ g.stack } := by
  obtain ⟨rfl, hrep, hW, L, hsame, hL⟩ := hE
  obtain ⟨T', X', hW', -, ht⟩ := X.outOf hg hdg hend hW hsame
  have hheap : t.heap = T'.heap := by rw [ht]; rfl
  refine ⟨T', L, X', hL, ?_, ht⟩
  rw [← hheap]
  exact ax_rep_moved (u := T.calling g mk a) X.warmed.alike.symm hrep
/-- behind a call that has thrown -/
theorem ax_backX (X : Stand p l e R s m args below meth c T locs cells slots) {g : JFrame} (hg : g.method = m) {mk : MethodId} {a : Array Value} {h h1 : ax_H} {E : Nat} {t : State} {o : Outcome} (hend : Ended t (.java g :: below) o) (hE : ax_end D dA b base (T.calling g mk a) h (.inr E, h1) o t) :
    ∃ (T' : State) (L : List Loc) (ce : Cell), Stand p l e R s m args below meth c T' (locs ++ L) (cells + (h1.1.length - h.1.length)) (slots + (h1.2 - h.2)) ∧ (∀ q ∈ L, base ≤ q.base) ∧ ax_rep D dA b base s h1 T'.heap ∧ 1 < h1.1.length ∧ T'.heap[ax_ad b base (h1.1.length - 1)]? = some ce ∧ ce.vm = .none ∧ s.vm.findClass (ax_en E) = some ce.cls ∧ t = (T'.setTop g).pushFrame (.throwing (ax_ad b base (h1.1.length - 1))) := by
  obtain ⟨⟨h1', ce, rfl, hce, hcv, hcl⟩, hrep, hW, L, hsame, hL⟩ := hE
  obtain ⟨T', X', hW', -, ht⟩ := X.outOfThrown hg hend hW hsame
  have hheap : t.heap = T'.heap := by rw [ht]; exact Stand.throwing_heap _ _ _
  refine ⟨T', L, ce, X', hL, ?_, h1', by rw [← hheap]; exact hce, hcv, ?_, ht⟩
  · rw [← hheap]
    exact ax_rep_moved (u := T.calling g mk a) X.warmed.alike.symm hrep
  · have : T.vm.findClass (ax_en E) = some ce.cls := hcl
    rw [X.warmed.alike.findClass] at this
    exact this
end AxIn
end
section
/-! the search for a handler, where the classes caught may not have been looked up yet -/
section AxSeek
variable {e : Env} {s : State} {f : JFrame} {a : Addr}
theorem ax_go_class {E : CtlPost} {d : Bool} {acts : List Action} {Q : Handler → Pre} {y : ExceptionTableEntry} {t : List ExceptionTableEntry} {c : ClassId} {cell : Cell} {vm' : Vm} (hy : covers y f.pc = true) (h0 : y.catchType ≠ 0)
    (hg : (resolveClass f.method.cls y.catchType).Gives e.toSetting s.vm (.ok c) vm') (hcell : s.heap[a]? = some cell) (hobj : ∀ k, cell.vm ≠ .statics k)
    (hk : ∃ k, vm'.classes[cell.cls]? = some k) (hc : ∃ k, vm'.classes[c]? = some k) (hsz : vm'.classes.size ≤ s.vm.classes.size) :
    wp (findHandler.go f a (y :: t)) Q E e d acts s ↔
      if vm'.assignable cell.cls c = true then Q (.found y.handlerPc) d acts (s.setVm vm') else wp (findHandler.go f a t) Q E e d acts (s.setVm vm') := by
  simp only [covers] at hy
  obtain ⟨ha, ht⟩ := hg.op (op := VmOp.resolveClass f.method.cls y.catchType) rfl
  have hcell' : (s.setVm vm').heap[a]? = some cell := hcell
  cases hfit : vm'.assignable cell.cls c <;>
    simp [findHandler.go, hy, h0, ha, ht, hsz, hcell, hcell', hobj, hk, hc, hfit, VmOp.dirties, VmOp.acts]
/-- what the search gives, and the tables that it leaves -/
def ax_finds (e : Env) (s : State) (f : JFrame) (a : Addr) (h : Handler) (vm' : Vm) : Prop :=
  ∀ (Q : Handler → Pre) (E : CtlPost) (d : Bool) (acts : List Action), wp (findHandler f a) Q E e d acts s ↔ Q h d acts (s.setVm vm')
theorem ax_st_leave {r : List Frame} {meth : Method} {vm' : Vm} (hm : vm'.method? f.method = some meth) (hl : meth.locks = false) (hlocked : f.locked = none) (hentered : f.entered = []) (hfind : ax_finds e s f a .none vm') :
    (stepThrowing e s a (.java f :: r)).Is ((s.setVm vm').setFrames (.throwing a :: r)) [] := by
  simp only [stepThrowing, searchFrame, vmDo]
  generalize hr : Sem.go _ e false [] s = res
  obtain ⟨as, rfl, ha⟩ := Sem.eq_ok_of hr (a := Handler.none) (s' := s.setVm vm') (acts' := [])
    (by cases hp : e.platform.frameOwnsMonitors <;> simp [hfind _ _ _ _, hm, hl, hlocked, hentered, hp, leaveIfLocked])
  exact ⟨rfl, ha⟩
theorem ax_st_catch {r : List Frame} {pc : Nat} {vm' : Vm} (hfind : ax_finds e s f a (.found pc) vm') :
    (stepThrowing e s a (.java f :: r)).Is ((s.setVm vm').setFrames (.java { f with pc := pc, stack := [.ref a] } :: r)) [] := by
  simp only [stepThrowing, searchFrame, vmDo]
  generalize hr : Sem.go _ e false [] s = res
  obtain ⟨as, rfl, ha⟩ := Sem.eq_ok_of hr (a := Handler.found pc) (s' := s.setVm vm') (acts' := []) (by simp [hfind _ _ _ _])
  exact ⟨rfl, ha⟩
end AxSeek
section AxSeek2
variable {tb : Tables} {e : Env} {s target : State} {g : JFrame} {c : Code} {below : List Frame} {a : Addr}
theorem ax_thrownOut (h : At s g.method c below) {meth : Method} {vm' : Vm} (hm : vm'.method? g.method = some meth) (hl : meth.locks = false) (hlocked : g.locked = none) (hentered : g.entered = []) (hfind : ax_finds e ((s.setTop g).pushFrame (.throwing a)) g a .none vm')
    (hrest : Steps tb e below ((s.setVm vm').setFrames (.throwing a :: s.frames.tail)) target) : Steps tb e below ((s.setTop g).pushFrame (.throwing a)) target := by
  obtain ⟨hgo, hw⟩ := h.throwing a
  refine Steps.head hgo hw ?_
  rw [stepThread_throwing (frames_entered h.top _), (ax_st_leave (s := (s.setTop g).pushFrame (.throwing a)) (meth := meth) hm hl hlocked hentered hfind).1]
  obtain ⟨g₀, hg⟩ := Option.isSome_iff_exists.mp h.top
  obtain ⟨r, hr⟩ := State.topJava?_eq_some.mp hg
  rw [State.pushFrame, State.setTop_of_frames _ hr, State.setFrames_setFrames]
  show Steps tb e below (((s.setFrames _).setVm vm').setFrames _) target
  have e1 : ∀ (fr fr' : List Frame), ((s.setFrames fr).setVm vm').setFrames fr' = (s.setVm vm').setFrames fr' := fun fr fr' => by
    show ((s.setVm vm').setFrames fr).setFrames fr' = _
    rw [State.setFrames_setFrames]
  rw [e1]
  exact hrest
theorem ax_caught (h : At s g.method c below) {pc : Nat} {vm' : Vm} (hfind : ax_finds e ((s.setTop g).pushFrame (.throwing a)) g a (.found pc) vm')
    (hrest : Steps tb e below ((s.setVm vm').setTop { g with pc := pc, stack := [.ref a] }) target) : Steps tb e below ((s.setTop g).pushFrame (.throwing a)) target := by
  obtain ⟨hgo, hw⟩ := h.throwing a
  refine Steps.head hgo hw ?_
  rw [stepThread_throwing (frames_entered h.top _), (ax_st_catch (s := (s.setTop g).pushFrame (.throwing a)) hfind).1]
  obtain ⟨g₀, hg⟩ := Option.isSome_iff_exists.mp h.top
  obtain ⟨r, hr⟩ := State.topJava?_eq_some.mp hg
  have hr' : (s.setVm vm').frames = .java g₀ :: r := hr
  rw [State.pushFrame, State.setTop_of_frames _ hr, State.setFrames_setFrames]
  rw [State.setTop_of_frames _ hr'] at hrest
  have e1 : ∀ (fr fr' : List Frame), ((s.setFrames fr).setVm vm').setFrames fr' = (s.setVm vm').setFrames fr' := fun fr fr' => by
    show ((s.setVm vm').setFrames fr).setFrames fr' = _
    rw [State.setFrames_setFrames]
  rw [e1, hr]
  exact hrest
end AxSeek2
theorem ax_tC_ok : ∀ e ∈ ax_tC, ax_w (.classLink (ax_cn e.1.1) e.1.2 (ax_en e.2)) ∧ e.2 < 2 := by decide +kernel
def ax_hd (o : Option Nat) : Handler := match o with
  | some t => .found t
  | none => .none
section AxSeek3
variable {p : Program} {l : Launch} {e : Env} {R : Room} {s : State} {m : MethodId} {args : Array Value} {below : List Frame} {meth : Method} {c : Code} {T : State} {locs : List Loc} {cells slots : Nat}
theorem ax_seek_go {own : Nat} (hown : s.vm.findClass (ax_cn own) = some m.cls) (hG : ∀ w ∈ lw_tbl, ax_gw w = true → w.before args s = true) (hN0 : va_Nc (ax_en 1) (ax_en 0) s) (hN1 : va_Nc (ax_en 0) (ax_en 1) s) (hpl : e.platform.magicAccessors = ({} : Platform).magicAccessors) {g : JFrame} (hg : g.method = m) {a : Addr} {E : Nat} (hE : E < 2) {ce : Cell} (hcv : ce.vm = .none) (hcl : s.vm.findClass (ax_en E) = some ce.cls) :
    ∀ (ys : List ExceptionTableEntry), ax_hsok own (ys.map (fun h => (h.startPc, h.endPc, h.handlerPc, h.catchType))) = true → ∀ (U : State), s.WarmedH U.vm → U.heap[a]? = some ce →
      ∃ vm', s.WarmedH vm' ∧ ∀ (Q : Handler → Pre) (Ex : CtlPost) (d : Bool) (acts : List Action), wp (findHandler.go g a ys) Q Ex e d acts U ↔ Q (ax_hd (ax_hand own (ys.map (fun h => (h.startPc, h.endPc, h.handlerPc, h.catchType))) g.pc E)) d acts (U.setVm vm') := by
  intro ys
  induction ys with
  | nil => exact fun _ U hW _ => ⟨U.vm, hW, fun Q Ex d acts => W.findHandler_go_nil⟩
  | cons y ys ih =>
    intro hok U hW hce
    simp only [ax_hsok, List.map_cons, List.all_cons, Bool.and_eq_true, decide_eq_true_eq] at hok
    obtain ⟨⟨h0, hs⟩, hok⟩ := hok
    by_cases hcov : covers y g.pc = true
    · have hcov2 : y.startPc ≤ g.pc ∧ g.pc < y.endPc := by simpa [covers] using hcov
      obtain ⟨E', hE'⟩ := Option.isSome_iff_exists.mp hs
      obtain ⟨hw, hlt⟩ := ax_tC_ok ((own, y.catchType), E') (ax_lookup2_in hE')
      obtain ⟨cc, hfc, hlinks⟩ := Cond.classLink_spec hown (hG _ hw.1 hw.2) e.platform hpl
      obtain ⟨hgv, hwarm, -⟩ := State.classEntry (e := e) hW hlinks
      subst hg
      generalize U.vm.noted g.method.cls y.catchType (.cls cc) = vm₁ at hgv hwarm
      have hal := hwarm.alike
      have q1 : ∃ k, vm₁.classes[ce.cls]? = some k := Vm.classAt_of_findClass (name := ax_en E) (by rw [hal.findClass]; exact hcl)
      have q2 : ∃ k, vm₁.classes[cc]? = some k := Vm.classAt_of_findClass (name := ax_en E') (by rw [hal.findClass]; exact hfc)
      have hsz : vm₁.classes.size ≤ U.vm.classes.size := Vm.Alike.size_le (hW.alike.symm.trans hal)
      have key := fun Q Ex d acts => ax_go_class (e := e) (s := U) (f := g) (a := a) (E := Ex) (d := d) (acts := acts) (Q := Q) (t := ys) hcov h0 hgv hce (fun k => by rw [hcv]; intro z; cases z) q1 q2 hsz
      by_cases hEE : E' = E
      · subst hEE
        cases hfc.symm.trans hcl
        have hfit : vm₁.assignable ce.cls ce.cls = true := by
          show vm₁.assignableAux (255 + 1) ce.cls ce.cls = true
          rw [Vm.assignableAux]
          simp
        refine ⟨vm₁, hwarm, fun Q Ex d acts => ?_⟩
        rw [key, if_pos hfit]
        have : ax_hand own ((y :: ys).map (fun h => (h.startPc, h.endPc, h.handlerPc, h.catchType))) g.pc E' = some y.handlerPc := by
          simp only [List.map_cons, ax_hand]
          rw [if_pos ⟨hcov2.1, hcov2.2, hE'⟩]
        rw [this]
        rfl
      · have hfit : vm₁.assignable ce.cls cc = false := by
          rw [hal.assignable]
          have h2 : (E = 1 ∧ E' = 0) ∨ (E = 0 ∧ E' = 1) := by omega
          rcases h2 with ⟨rfl, rfl⟩ | ⟨rfl, rfl⟩
          · obtain ⟨c1, t1, z1, z2, z3⟩ := hN0
            cases hcl.symm.trans z1
            cases hfc.symm.trans z2
            exact z3
          · obtain ⟨c1, t1, z1, z2, z3⟩ := hN1
            cases hcl.symm.trans z1
            cases hfc.symm.trans z2
            exact z3
        obtain ⟨vm', hW', hq⟩ := ih hok (U.setVm vm₁) hwarm hce
        refine ⟨vm', hW', fun Q Ex d acts => ?_⟩
        rw [key, if_neg (by rw [hfit]; decide), hq]
        have : ax_hand own ((y :: ys).map (fun h => (h.startPc, h.endPc, h.handlerPc, h.catchType))) g.pc E = ax_hand own (ys.map (fun h => (h.startPc, h.endPc, h.handlerPc, h.catchType))) g.pc E := by
          simp only [List.map_cons, ax_hand]
          rw [if_neg]
          rintro ⟨-, -, z⟩
          exact hEE (Option.some.inj (hE'.symm.trans z))
        rw [this]
        rfl
    · have hcov' : covers y g.pc = false := by simpa using hcov
      obtain ⟨vm', hW', hq⟩ := ih hok U hW hce
      refine ⟨vm', hW', fun Q Ex d acts => ?_⟩
      rw [W.findHandler_go_skip hcov', hq]
      have : ax_hand own ((y :: ys).map (fun h => (h.startPc, h.endPc, h.handlerPc, h.catchType))) g.pc E = ax_hand own (ys.map (fun h => (h.startPc, h.endPc, h.handlerPc, h.catchType))) g.pc E := by
        simp only [List.map_cons, ax_hand]
        rw [if_neg]
        rintro ⟨z1, z2, -⟩
        apply hcov
        simp [covers, z1, z2]
      rw [this]
/-- a throw that reaches a frame: the handler that takes it, or none -/
theorem ax_seek (X : Stand p l e R s m args below meth c T locs cells slots) {own : Nat} (hown : s.vm.findClass (ax_cn own) = some m.cls) (hG : ∀ w ∈ lw_tbl, ax_gw w = true → w.before args s = true) (hN0 : va_Nc (ax_en 1) (ax_en 0) s) (hN1 : va_Nc (ax_en 0) (ax_en 1) s) {g : JFrame} (hg : g.method = m) {a : Addr} {E : Nat} (hE : E < 2) {ce : Cell} (hce : T.heap[a]? = some ce) (hcv : ce.vm = .none) (hcl : s.vm.findClass (ax_en E) = some ce.cls) {hs : List (Nat × Nat × Nat × Nat)} (hhs : c.exceptionTable.toList.map (fun h => (h.startPc, h.endPc, h.handlerPc, h.catchType)) = hs) (hok : ax_hsok own hs = true) :
    ∃ vm', s.WarmedH vm' ∧ ax_finds e ((T.setTop g).pushFrame (.throwing a)) g a (ax_hd (ax_hand own hs g.pc E)) vm' := by
  have hpl : e.platform.magicAccessors = ({} : Platform).magicAccessors := by rw [X.admits.platform]
  subst hhs
  have hvm : ((T.setTop g).pushFrame (.throwing a)).vm = T.vm := Stand.throwing_vm _ _ _
  obtain ⟨vm', hW', hq⟩ := ax_seek_go hown hG hN0 hN1 hpl hg hE hcv hcl c.exceptionTable.toList hok ((T.setTop g).pushFrame (.throwing a)) (by rw [hvm]; exact X.warmed) (by rw [Stand.throwing_heap]; exact hce)
  refine ⟨vm', hW', fun Q Ex d acts => ?_⟩
  rw [W.findHandler_eq (meth := meth) (code := c) (by rw [hvm, hg]; exact X.method') X.code]
  exact hq Q Ex d acts
end AxSeek3
end
section
theorem ax_cat (b base : Nat) (v : Value) : (ax_v b base v).category = v.category := by cases v <;> rfl
theorem ax_wsum_map (b base : Nat) (st : List Value) : ((st.map (ax_v b base)).map fun v => v.category).sum = ax_wsum st := by
  unfold ax_wsum
  rw [List.map_map]
  congr 1
  exact List.map_congr_left (fun v _ => ax_cat b base v)
section AxCall
variable {D : va_G} {dA : Nat → ClassId} {b base : Nat} {p : Program} {l : Launch} {e : Env} {R : Room} {s : State} {m : MethodId} {args : Array Value} {below : List Frame} {meth : Method} {c : Code} {nL : Nat} {h0 : ax_H} {r : ax_R} {M : ax_M} {y : MethodName} {bs : ByteArray} {fr lo : Nat}
/-- a call's instruction, up to the callee's own first step -/
def ax_disp (D : va_G) (dA : Nat → ClassId) (b base : Nat) (p : Program) (l : Launch) (e : Env) (R : Room) (s : State) (m : MethodId) (args : Array Value) (below : List Frame) (meth : Method) (c : Code) (y1 : MethodName) (n pc : Nat) (st : List Value) (h : ax_H) : Prop :=
  ∀ (T : State) (locs : List Loc) (cells slots : Nat) (ls : Array Slot), Stand p l e R s m args below meth c T locs cells slots → ax_rep D dA b base s h T.heap →
    ∃ (vm' : Vm) (mk : MethodId), s.methodNamed? y1 = some mk ∧ Stand p l e R s m args below meth c (T.setVm vm') locs cells slots ∧
      ∀ target, (∀ acts, Steps p.tables e below (doInvoke e ((T.setVm vm').setTop { F0 m pc ls (st.map (ax_v b base)) with stack := (st.drop n).map (ax_v b base) }) acts mk ((st.take n).reverse.map (ax_v b base)).toArray).1 target) → Steps p.tables e below (T.setTop (F0 m pc ls (st.map (ax_v b base)))) target
theorem ax_call_sound (ctx : ax_ctx D dA b base p e R s m args meth c M y bs nL fr lo) (hRc : r.2.1.length - h0.1.length ≤ R.cells) (hRs : r.2.2 - h0.2 ≤ R.slots) (hsok : ax_hsok M.1 M.2.2.2.1 = true)
    {pc n mi : Nat} {ig : Instr} (hdg : decode bs pc = .ok (ig, 3)) {lv : ax_L} {st : List Value} {h : ax_H} {M1 : ax_M} {y1 : MethodName} {bs1 : ByteArray} {nL1 fr1 lo1 : Nat} (hpr : ax_pr[mi]? = some M1) (hmm : ax_mm[mi]? = some (y1, bs1, nL1, fr1, lo1)) (hyx : y1 ≠ x) (hfr : fr1 + 1 ≤ fr) (hlo : 8 + (nL1 + 11) + lo1 ≤ lo) (hw : ax_wsum (st.drop n) ≤ 8)
    (hdisp : ax_disp D dA b base p l e R s m args below meth c y1 n pc st h)
    (hcall : (∃ v h1, ax_Snd D dA b base l mi (st.take n).reverse h (.inl v, h1) ∧ ax_P D dA b base p l e R s m args below meth c nL h0 r (pc + 3) lv (v.toList ++ st.drop n) h1) ∨
      (∃ E h1, ax_Snd D dA b base l mi (st.take n).reverse h (.inr E, h1) ∧ E < 2 ∧
       ((∃ t, ax_hand M.1 M.2.2.2.1 pc E = some t ∧ ax_P D dA b base p l e R s m args below meth c nL h0 r t lv [.ref (h1.1.length - 1)] h1) ∨ (ax_hand M.1 M.2.2.2.1 pc E = none ∧ r = (.inr E, h1))))) :
    ax_P D dA b base p l e R s m args below meth c nL h0 r pc lv st h := by
  obtain ⟨hbb, hx, hbs, hnL, hret, hlocks, htab, hown, hname, hG, hK, hTw, hNc, hNd, hbase, hfrR, hloR, htr⟩ := ctx
  have hdc : decode c.code pc = .ok (ig, 3) := by rw [hbs]; exact hdg
  have lens : h.1.length ≤ r.2.1.length ∧ h.2 ≤ r.2.2 := by
    rcases hcall with ⟨v, h1, hS, hP⟩ | ⟨E, h1, hS, -, ⟨t, -, hP⟩ | ⟨-, hr⟩⟩
    · exact ⟨Nat.le_trans hS.1 hP.1, Nat.le_trans hS.2.1 hP.2.1⟩
    · exact ⟨Nat.le_trans hS.1 hP.1, Nat.le_trans hS.2.1 hP.2.1⟩
    · rw [hr]
      exact ⟨hS.1, hS.2.1⟩
  refine ⟨lens.1, lens.2, fun g1 g2 H locs ls hl hr hq T hT X => ?_⟩
  subst hT
  obtain ⟨vm', mk, hn, X', hstep⟩ := hdisp T locs _ _ ls X hr
  have hsize : ls.size = c.maxLocals := by rw [hnL]; exact hl.1
  have hrep' : ax_rep D dA b base s h (T.setVm vm').heap := hr
  rcases hcall with ⟨v, h1, hS, hP⟩ | ⟨E, h1, hS, hE2, hP⟩
  · have e1 : h.1.length ≤ h1.1.length := hS.1
    have e2 : h.2 ≤ h1.2 := hS.2.1
    have e3 := hP.1
    have e4 := hP.2.1
    obtain ⟨t, o, hin, hend, hEnd⟩ := ax_into (as := (st.take n).reverse) hbb X' hx hG hK hTw hNc hNd hq hbase htr (g := { F0 m pc ls (st.map (ax_v b base)) with stack := (st.drop n).map (ax_v b base) }) rfl hsize hdc hpr hmm hyx hn (by omega)
      (by show 2 * 0 + (((st.drop n).map (ax_v b base)).map fun v => v.category).sum + (nL1 + 11) + lo1 ≤ R.locals; rw [ax_wsum_map]; omega) (r1 := (.inl v, h1)) (by show h.1.length - h0.1.length + (h1.1.length - h.1.length) ≤ R.cells; omega) (by show h.2 - h0.2 + (h1.2 - h.2) ≤ R.slots; omega) hrep' hS
    obtain ⟨T', L, X'', hL, hrep2, ht⟩ := ax_back X' (g := { F0 m pc ls (st.map (ax_v b base)) with stack := (st.drop n).map (ax_v b base) }) rfl hdc hend hEnd
    have c1 : h.1.length - h0.1.length + (h1.1.length - h.1.length) = h1.1.length - h0.1.length := by omega
    have c2 : h.2 - h0.2 + (h1.2 - h.2) = h1.2 - h0.2 := by omega
    rw [c1, c2] at X''
    obtain ⟨t2, hst2, hQ⟩ := hP.2.2 (by omega) (by omega) T'.heap (locs ++ L) ls hl hrep2 (fun q hq1 => by
      rcases List.mem_append.mp hq1 with q1 | q1
      · exact hq q q1
      · exact hL q q1) T' rfl X''
    refine ⟨t2, (hstep t hin).trans ?_, hQ⟩
    rw [ht]
    have e5 : ({ F0 m pc ls (st.map (ax_v b base)) with pc := pc + 3, stack := (v.map (ax_v b base)).toList ++ (st.drop n).map (ax_v b base) } : JFrame) = F0 m (pc + 3) ls ((v.toList ++ st.drop n).map (ax_v b base)) := by
      cases v <;> simp
    show Steps p.tables e below (T'.setTop { F0 m pc ls (st.map (ax_v b base)) with pc := pc + 3, stack := (v.map (ax_v b base)).toList ++ (st.drop n).map (ax_v b base) }) t2
    rw [e5]
    exact hst2
  · have e1 : h.1.length ≤ h1.1.length := hS.1
    have e2 : h.2 ≤ h1.2 := hS.2.1
    have e34 : h1.1.length ≤ r.2.1.length ∧ h1.2 ≤ r.2.2 := by
      rcases hP with ⟨t, -, hP⟩ | ⟨-, hr⟩
      · exact ⟨hP.1, hP.2.1⟩
      · rw [hr]
        exact ⟨Nat.le_refl _, Nat.le_refl _⟩
    obtain ⟨e3, e4⟩ := e34
    obtain ⟨t, o, hin, hend, hEnd⟩ := ax_into (as := (st.take n).reverse) hbb X' hx hG hK hTw hNc hNd hq hbase htr (g := { F0 m pc ls (st.map (ax_v b base)) with stack := (st.drop n).map (ax_v b base) }) rfl hsize hdc hpr hmm hyx hn (by omega)
      (by show 2 * 0 + (((st.drop n).map (ax_v b base)).map fun v => v.category).sum + (nL1 + 11) + lo1 ≤ R.locals; rw [ax_wsum_map]; omega) (r1 := (.inr E, h1)) (by show h.1.length - h0.1.length + (h1.1.length - h.1.length) ≤ R.cells; omega) (by show h.2 - h0.2 + (h1.2 - h.2) ≤ R.slots; omega) hrep' hS
    obtain ⟨T', L, ce, X'', hL, hrep2, hone, hce, hcv, hcl, ht⟩ := ax_backX X' (g := { F0 m pc ls (st.map (ax_v b base)) with stack := (st.drop n).map (ax_v b base) }) rfl hend hEnd
    have c1 : h.1.length - h0.1.length + (h1.1.length - h.1.length) = h1.1.length - h0.1.length := by omega
    have c2 : h.2 - h0.2 + (h1.2 - h.2) = h1.2 - h0.2 := by omega
    rw [c1, c2] at X''
    have hq2 : ∀ q ∈ locs ++ L, base ≤ q.base := fun q hq1 => by
      rcases List.mem_append.mp hq1 with q1 | q1
      · exact hq q q1
      · exact hL q q1
    obtain ⟨vm2, hW2, hfind⟩ := ax_seek X'' hown hG hNc hNd (g := { F0 m pc ls (st.map (ax_v b base)) with stack := (st.drop n).map (ax_v b base) }) rfl hE2 hce hcv hcl htab hsok
    have X3 := X''.noted hW2
    rcases hP with ⟨tt, hh, hP⟩ | ⟨hh, hr1⟩
    · rw [show ax_hand M.1 M.2.2.2.1 (F0 m pc ls (st.map (ax_v b base))).pc E = some tt from hh] at hfind
      obtain ⟨t2, hst2, hQ⟩ := hP.2.2 (by omega) (by omega) T'.heap (locs ++ L) ls hl hrep2 hq2 (T'.setVm vm2) rfl X3
      refine ⟨t2, (hstep t hin).trans ?_, hQ⟩
      rw [ht]
      exact ax_caught (g := { F0 m pc ls (st.map (ax_v b base)) with stack := (st.drop n).map (ax_v b base) }) X''.here hfind hst2
    · rw [show ax_hand M.1 M.2.2.2.1 (F0 m pc ls (st.map (ax_v b base))).pc E = none from hh] at hfind
      subst hr1
      have hcur : (T'.setVm vm2).cur < (T'.setVm vm2).threads.size := by
        obtain ⟨g₀, hfr⟩ := X3.frames_eq
        exact State.cur_lt_of_frames hfr
      refine ⟨(T'.setVm vm2).setFrames (.throwing (ax_ad b base (h1.1.length - 1)) :: below), (hstep t hin).trans ?_, .threw (ax_ad b base (h1.1.length - 1)), X3.here.running, State.frames_setFrames _ hcur, ⟨⟨hone, ce, rfl, hce, hcv, hcl⟩, hrep2, (X3.ends _).1, locs ++ L, (X3.ends _).2, hq2⟩⟩
      rw [ht]
      refine ax_thrownOut (g := { F0 m pc ls (st.map (ax_v b base)) with stack := (st.drop n).map (ax_v b base) }) (meth := meth) X''.here X3.method' hlocks rfl rfl hfind ?_
      rw [X''.tail]
      exact Steps.refl _
end AxCall
end
section
section AxDisp
variable {D : va_G} {dA : Nat → ClassId} {b base : Nat} {p : Program} {l : Launch} {e : Env} {R : Room} {s : State} {m : MethodId} {args : Array Value} {below : List Frame} {meth : Method} {c : Code} {M : ax_M} {bs : ByteArray}
/-- what a call site's row says -/
theorem ax_callee_at {own ix : Nat} {g : Nat → Nat → MethodName → Nat → Nat → Nat → Bool} (h : ax_callee own ix g = true) {mi n : Nat} (ht : ax_tM.lookup (own, ix) = some (mi, n)) :
    ∃ y bs nL f lo, ax_mm[mi]? = some (y, bs, nL, f, lo) ∧ g mi n y nL f lo = true := by
  unfold ax_callee at h
  rw [ht] at h
  simp only at h
  split at h
  · rename_i z hz
    exact ⟨z.1, z.2.1, z.2.2.1, z.2.2.2.1, z.2.2.2.2, hz, h⟩
  · cases h
def ax_lkd (own ix : Nat) (y : MethodName) : Prop := ax_w (.methodLink (ax_cn own) ix y) ∨ ax_w (.methodLinkNest (ax_cn own) ix y "MakingLimits")
theorem ax_link_of {own ix : Nat} {y : MethodName} (h : ax_link own ix y = true) : ax_lkd own ix y := by
  unfold ax_lkd
  simpa only [ax_link, Bool.or_eq_true, decide_eq_true_eq] using h
def ax_fits2 (fr lo nL f l : Nat) (y : MethodName) : Prop := y ≠ x ∧ f + 1 ≤ fr ∧ 8 + (nL + 11) + l ≤ lo ∧ (y.cls ≠ "java/lang/invoke/MethodHandle" ∧ y.cls ≠ "java/lang/invoke/VarHandle")
theorem ax_fit_of {fr lo mi nL f l : Nat} {y : MethodName} (h : ax_fit fr lo mi nL f l y = true) : ax_fits2 fr lo nL f l y := by
  simp only [ax_fit, Bool.and_eq_true, decide_eq_true_eq] at h
  exact ⟨h.1.1.1.1, h.1.1.1.2, h.1.1.2, h.1.2, h.2⟩
theorem ax_okS_at {fr lo own ix mi n : Nat} (h : ax_okS fr lo own ix = true) (ht : ax_tM.lookup (own, ix) = some (mi, n)) :
    ∃ y bs nL f lo1, ax_mm[mi]? = some (y, bs, nL, f, lo1) ∧ ax_fits2 fr lo nL f lo1 y ∧ ax_lkd own ix y ∧ ax_w (.static y) ∧ ax_w (.initialized y.cls) ∧ (parseMethodDescriptor y.desc).map (fun d => d.parameters.length) = some n := by
  obtain ⟨y, bs, nL, f, lo1, h1, h2⟩ := ax_callee_at h ht
  simp only [Bool.and_eq_true, decide_eq_true_eq] at h2
  exact ⟨y, bs, nL, f, lo1, h1, ax_fit_of h2.1.1.1.1, ax_link_of h2.1.1.1.2, h2.1.1.2, h2.1.2, h2.2⟩
theorem ax_okV_at {fr lo own ix mi n : Nat} (h : ax_okV fr lo own ix = true) (ht : ax_tM.lookup (own, ix) = some (mi, n)) :
    ∃ y bs nL f lo1, ax_mm[mi]? = some (y, bs, nL, f, lo1) ∧ ax_fits2 fr lo nL f lo1 y ∧ ax_lkd own ix y ∧ ax_w (.instanceMethod y) ∧ ax_w (.selects y.cls y y) ∧ (parseMethodDescriptor y.desc).map (fun d => d.parameters.length + 1) = some n ∧ (classes[ax_rc mi]?).map (fun q => q.1) = some y.cls := by
  obtain ⟨y, bs, nL, f, lo1, h1, h2⟩ := ax_callee_at h ht
  simp only [Bool.and_eq_true, decide_eq_true_eq] at h2
  exact ⟨y, bs, nL, f, lo1, h1, ax_fit_of h2.1.1.1.1.1, ax_link_of h2.1.1.1.1.2, h2.1.1.1.2, h2.1.1.2, h2.1.2, h2.2⟩
theorem ax_okN_at {fr lo own ix mi n : Nat} (h : ax_okN fr lo own ix = true) (ht : ax_tM.lookup (own, ix) = some (mi, n)) :
    ∃ y bs nL f lo1, ax_mm[mi]? = some (y, bs, nL, f, lo1) ∧ ax_fits2 fr lo nL f lo1 y ∧ ax_lkd own ix y ∧ ax_w (.instanceMethod y) ∧ y.name = "<init>" ∧ (ax_pr[mi]?).map (fun M => (M.2.1, M.2.2.2.1)) = some (none, []) ∧ (parseMethodDescriptor y.desc).map (fun d => d.parameters.length + 1) = some n := by
  obtain ⟨y, bs, nL, f, lo1, h1, h2⟩ := ax_callee_at h ht
  simp only [Bool.and_eq_true, decide_eq_true_eq] at h2
  exact ⟨y, bs, nL, f, lo1, h1, ax_fit_of h2.1.1.1.1.1, ax_link_of h2.1.1.1.1.2, h2.1.1.1.2, h2.1.1.2, h2.1.2, h2.2⟩
/-- the method itself -/
theorem ax_meth (hG : ∀ w ∈ lw_tbl, ax_gw w = true → w.before args s = true) {mi : Nat} {M1 : ax_M} {y1 : MethodName} {bs1 : ByteArray} {nL1 fr1 lo1 : Nat} (hpr : ax_pr[mi]? = some M1) (hmm : ax_mm[mi]? = some (y1, bs1, nL1, fr1, lo1)) (hyx : y1 ≠ x) :
    ∃ mk meth1, s.methodNamed? y1 = some mk ∧ s.vm.method? mk = some meth1 ∧ parseMethodDescriptor y1.desc = some meth1.sig := by
  obtain ⟨-, -, -, -, hco0, -, -⟩ := ax_mt_ok mi M1 _ hpr hmm
  rcases hco0.resolve_left hyx with ⟨he, hw⟩ | ⟨-, hw⟩
  · have hw1 := hG _ hw.1 hw.2
    obtain ⟨mk, hn⟩ := Cond.code_named hw1
    obtain ⟨meth1, c1, q1, q2, q3, q4, q5, q6, q7, q8⟩ := Cond.code_spec hn hw1
    exact ⟨mk, meth1, hn, q1, q8⟩
  · obtain ⟨mk', meth1, c1, q0, q1, q2, q3, q4, q5, q6, q7, q8⟩ := Cond.codeWith_spec (hG _ hw.1 hw.2)
    exact ⟨mk', meth1, q0, q1, q8⟩
theorem ax_dispS (hx : p.tables.exec = Jvm.exec) (hbs : c.code = bs) (hown : s.vm.findClass (ax_cn M.1) = some m.cls) (hG : ∀ w ∈ lw_tbl, ax_gw w = true → w.before args s = true) {ix mi n pc : Nat} {M1 : ax_M} {y1 : MethodName} {bs1 : ByteArray} {nL1 fr1 lo1 : Nat} (hpr : ax_pr[mi]? = some M1) (hmm : ax_mm[mi]? = some (y1, bs1, nL1, fr1, lo1)) (hyx : y1 ≠ x) (hy : y1.cls ≠ "java/lang/invoke/MethodHandle" ∧ y1.cls ≠ "java/lang/invoke/VarHandle")
    (hl : ax_lkd M.1 ix y1) (hst : ax_w (.static y1)) (hin : ax_w (.initialized y1.cls)) (hd : (parseMethodDescriptor y1.desc).map (fun d => d.parameters.length) = some n) (hdg : decode bs pc = .ok (.invokestatic ix, 3)) {st : List Value} {h : ax_H} (hn : n ≤ st.length) :
    ax_disp D dA b base p l e R s m args below meth c y1 n pc st h := by
  intro T locs cells slots ls X hrep
  obtain ⟨mk, meth1, hnamed, hmeth1, hsig⟩ := ax_meth hG hpr hmm hyx
  have hlen : ((st.take n).reverse.map (ax_v b base)).length = meth1.sig.parameters.length := by
    rw [hsig] at hd
    simp only [Option.map_some, Option.some.injEq] at hd
    simp only [List.length_map, List.length_reverse, List.length_take]
    omega
  have hstack : (F0 m pc ls (st.map (ax_v b base))).stack = ((st.take n).reverse.map (ax_v b base)).reverse ++ (st.drop n).map (ax_v b base) := by
    show st.map (ax_v b base) = _
    rw [← List.map_reverse, List.reverse_reverse, ← List.map_append, List.take_append_drop]
  have hstatic : meth1.isStatic = true := Cond.static_spec hnamed hmeth1 (hG _ hst.1 hst.2)
  obtain ⟨kP, hkP, -⟩ := className_of_methodNamed hnamed
  have hinitP : kP.init = .initialized := Cond.initialized_spec (findClass_of_methodNamed hnamed) hkP (hG _ hin.1 hin.2)
  rcases hl with hl | hl
  · obtain ⟨vm₁, X₁, hstep₁⟩ := X.invokestatic hx hown (hG _ hl.1 hl.2) hnamed hmeth1 hstatic hkP hinitP hy (g := F0 m pc ls (st.map (ax_v b base))) rfl hlen hstack (by rw [hbs]; exact hdg)
    exact ⟨vm₁, mk, hnamed, X₁, hstep₁⟩
  · obtain ⟨vm₁, X₁, hstep₁⟩ := X.invokestaticNest hx hown (hG _ hl.1 hl.2) hnamed hmeth1 hstatic hkP hinitP hy (g := F0 m pc ls (st.map (ax_v b base))) rfl hlen hstack (by rw [hbs]; exact hdg)
    exact ⟨vm₁, mk, hnamed, X₁, hstep₁⟩
theorem ax_recv_split {st as : List Value} {n a : Nat} (h : (st.take n).reverse = .ref a :: as) : st.map (ax_v b base) = (as.map (ax_v b base)).reverse ++ .ref (ax_ad b base a) :: (st.drop n).map (ax_v b base) ∧ ((st.take n).reverse.map (ax_v b base)) = .ref (ax_ad b base a) :: as.map (ax_v b base) := by
  have h1 : st.take n = as.reverse ++ [.ref a] := by
    have := congrArg List.reverse h
    rw [List.reverse_reverse, List.reverse_cons] at this
    exact this
  constructor
  · conv => lhs; rw [← List.take_append_drop n st]
    rw [h1]
    simp [ax_v]
  · rw [h]
    simp [ax_v]
theorem ax_dispV (hx : p.tables.exec = Jvm.exec) (hbs : c.code = bs) (hown : s.vm.findClass (ax_cn M.1) = some m.cls) (hG : ∀ w ∈ lw_tbl, ax_gw w = true → w.before args s = true) (hK : va_K D classes (ax_tys dA) s) {ix mi n pc : Nat} {M1 : ax_M} {y1 : MethodName} {bs1 : ByteArray} {nL1 fr1 lo1 : Nat} (hpr : ax_pr[mi]? = some M1) (hmm : ax_mm[mi]? = some (y1, bs1, nL1, fr1, lo1)) (hyx : y1 ≠ x) (hy : y1.cls ≠ "java/lang/invoke/MethodHandle" ∧ y1.cls ≠ "java/lang/invoke/VarHandle")
    (hl : ax_lkd M.1 ix y1) (hit : ax_w (.instanceMethod y1)) (hse : ax_w (.selects y1.cls y1 y1)) (hd : (parseMethodDescriptor y1.desc).map (fun d => d.parameters.length + 1) = some n) (hrc : (classes[ax_rc mi]?).map (fun q => q.1) = some y1.cls) (hdg : decode bs pc = .ok (.invokevirtual ix, 3)) {st : List Value} {h : ax_H} (hn : n ≤ st.length)
    {a : Nat} {as fs : List Value} (hsp : (st.take n).reverse = .ref a :: as) (hob : h.1[a]? = some (some (.inr (ax_rc mi, fs)))) :
    ax_disp D dA b base p l e R s m args below meth c y1 n pc st h := by
  intro T locs cells slots ls X hrep
  obtain ⟨mk, meth1, hnamed, hmeth1, hsig⟩ := ax_meth hG hpr hmm hyx
  obtain ⟨mk', methM, hnamed', hmethM, hstM, habM⟩ := Cond.instanceMethod_spec (hG _ hit.1 hit.2)
  cases hnamed.symm.trans hnamed'
  cases hmeth1.symm.trans hmethM
  have hlen : (as.map (ax_v b base)).length = meth1.sig.parameters.length := by
    have h2 := congrArg List.length hsp
    rw [hsig] at hd
    simp only [Option.map_some, Option.some.injEq] at hd
    simp only [List.length_map, List.length_reverse, List.length_take, List.length_cons] at h2 ⊢
    omega
  obtain ⟨hs1, hs2⟩ := ax_recv_split (b := b) (base := base) hsp
  obtain ⟨q0, hq0, hqc⟩ := Option.map_eq_some_iff.mp hrc
  obtain ⟨r0, hr0, cell, hcell, hcc, hcv, -⟩ : va_at D classes (ax_ad b base a, ax_e b base dA (.inr (ax_rc mi, fs))) T.heap := hrep.2.2 a _ hob
  cases hq0.symm.trans hr0
  have hfc : s.vm.findClass y1.cls = some cell.cls := by
    rw [← hqc, hcc]
    exact (hK.1 _ _ hq0).2.1
  obtain ⟨c2, r2, m2, q1, q2, q3, q4, kP, hkP, hkPi⟩ := Cond.selects_spec (hG _ hse.1 hse.2)
  cases hfc.symm.trans q1
  cases (State.methodFound?_of_named hnamed hy).symm.trans q2
  cases hnamed.symm.trans q3
  have hselP : selectMethod e.platform s.vm cell.cls mk = .method mk := by rw [Launch.admits_selectMethod X.admits]; exact q4
  rcases hl with hl | hl
  · obtain ⟨vm₁, X₁, hstep₁⟩ := X.invokevirtual hx hown (hG _ hl.1 hl.2) hnamed hmeth1 hstM hkP hkPi hy (a := ax_ad b base a) (cell := cell) hcell
      (fun z hz => by rw [hcv] at hz; cases hz) hselP hmeth1 habM hkP hkPi (g := F0 m pc ls (st.map (ax_v b base))) rfl (argsL := as.map (ax_v b base)) (rest := (st.drop n).map (ax_v b base)) hlen hs1 (by rw [hbs]; exact hdg)
    refine ⟨vm₁, mk, hnamed, X₁, fun tg hh => hstep₁ tg ?_⟩
    rw [hs2] at hh
    exact hh
  · obtain ⟨vm₁, X₁, hstep₁⟩ := X.invokevirtualNest hx hown (hG _ hl.1 hl.2) hnamed hmeth1 hstM hkP hkPi hy (a := ax_ad b base a) (cell := cell) hcell
      (fun z hz => by rw [hcv] at hz; cases hz) hselP hmeth1 habM hkP hkPi (g := F0 m pc ls (st.map (ax_v b base))) rfl (argsL := as.map (ax_v b base)) (rest := (st.drop n).map (ax_v b base)) hlen hs1 (by rw [hbs]; exact hdg)
    refine ⟨vm₁, mk, hnamed, X₁, fun tg hh => hstep₁ tg ?_⟩
    rw [hs2] at hh
    exact hh
theorem ax_dispN (hx : p.tables.exec = Jvm.exec) (hbs : c.code = bs) (hown : s.vm.findClass (ax_cn M.1) = some m.cls) (hG : ∀ w ∈ lw_tbl, ax_gw w = true → w.before args s = true) {ix mi n pc : Nat} {M1 : ax_M} {y1 : MethodName} {bs1 : ByteArray} {nL1 fr1 lo1 : Nat} (hpr : ax_pr[mi]? = some M1) (hmm : ax_mm[mi]? = some (y1, bs1, nL1, fr1, lo1)) (hyx : y1 ≠ x) (hy : y1.cls ≠ "java/lang/invoke/MethodHandle" ∧ y1.cls ≠ "java/lang/invoke/VarHandle")
    (hl : ax_lkd M.1 ix y1) (hit : ax_w (.instanceMethod y1)) (hnm : y1.name = "<init>") (hrh : (ax_pr[mi]?).map (fun M => (M.2.1, M.2.2.2.1)) = some (none, [])) (hd : (parseMethodDescriptor y1.desc).map (fun d => d.parameters.length + 1) = some n) (hdg : decode bs pc = .ok (.invokespecial ix, 3)) {st : List Value} {h : ax_H} (hn : n ≤ st.length)
    {a : Nat} {as : List Value} (hsp : (st.take n).reverse = .ref a :: as) :
    ax_disp D dA b base p l e R s m args below meth c y1 n pc st h := by
  intro T locs cells slots ls X hrep
  have hpl : e.platform.magicAccessors = ({} : Platform).magicAccessors := by rw [X.admits.platform]
  obtain ⟨mk, meth1, hnamed, hmeth1, hsig⟩ := ax_meth hG hpr hmm hyx
  obtain ⟨-, -, -, -, hco0, -, -⟩ := ax_mt_ok mi M1 _ hpr hmm
  rw [hpr] at hrh
  simp only [Option.map_some, Option.some.injEq, Prod.mk.injEq] at hrh
  have hcode : (Jvm.Cond.code y1 bs1 nL1 none).before args s = true := by
    rcases hco0.resolve_left hyx with ⟨-, hw⟩ | ⟨he, -⟩
    · have := hG _ hw.1 hw.2
      rw [hrh.1] at this
      exact this
    · exact absurd hrh.2 he
  have hlen : ∀ sig, parseMethodDescriptor y1.desc = some sig → (as.map (ax_v b base)).length = sig.parameters.length := by
    intro sig hsg
    have h2 := congrArg List.length hsp
    rw [hsg] at hd
    simp only [Option.map_some, Option.some.injEq] at hd
    simp only [List.length_map, List.length_reverse, List.length_take, List.length_cons] at h2 ⊢
    omega
  obtain ⟨hs1, hs2⟩ := ax_recv_split (b := b) (base := base) hsp
  rcases hl with hl | hl
  · obtain ⟨tm, meth2, cd, k, vm', g1, -, -, -, -, -, -, -, hW', hstep⟩ := Steps.initColdArgs (e := e) X.here hx X.warmed hpl hown hnm hy (hG _ hl.1 hl.2) (hG _ hit.1 hit.2) hcode (f := F0 m pc ls (st.map (ax_v b base))) rfl (argsL := as.map (ax_v b base)) (rest := (st.drop n).map (ax_v b base)) hlen hs1 (by rw [hbs]; exact hdg)
    refine ⟨vm', tm, g1, X.noted hW', fun tg hh => hstep tg ?_⟩
    rw [hs2] at hh
    exact hh
  · obtain ⟨tm, meth2, cd, k, vm', g1, -, -, -, -, -, -, -, hW', hstep⟩ := Steps.initColdArgsNest (e := e) X.here hx X.warmed hpl hown hnm hy (hG _ hl.1 hl.2) (hG _ hit.1 hit.2) hcode (f := F0 m pc ls (st.map (ax_v b base))) rfl (argsL := as.map (ax_v b base)) (rest := (st.drop n).map (ax_v b base)) hlen hs1 (by rw [hbs]; exact hdg)
    refine ⟨vm', tm, g1, X.noted hW', fun tg hh => hstep tg ?_⟩
    rw [hs2] at hh
    exact hh
end AxDisp
end
section
/-! throwing one of the two exceptions, made with a text of the pool -/
def ax_nms : List String := ["java/lang/RuntimeException", "java/lang/Exception"]
def ax_four : List Jvm.Cond := [.laysStatic Bundle.tN "UNASSIGNED_STACK" Bundle.steD, .isRef (.static Bundle.tN "UNASSIGNED_STACK" Bundle.steD), .laysStatic Bundle.tN "SUPPRESSED_SENTINEL" Bundle.listD, .isRef (.static Bundle.tN "SUPPRESSED_SENTINEL" Bundle.listD)]
theorem ax_at_all : ∀ q ∈ ax_tX, ∀ a ∈ Bundle.ownAtoms (ax_cn q.1.1) q.2.2 (ax_en q.2.1) ax_nms, ax_w a ∨ a ∈ ax_four := by decide +kernel
theorem ax_tX_ok : ∀ q ∈ ax_tX, ax_w (.classLink (ax_cn q.1.1) q.1.2 (ax_en q.2.1)) ∧ ax_w (.instantiable (ax_en q.2.1) 6) ∧ ax_w (.initialized (ax_en q.2.1)) ∧ q.2.1 < 2 := by decide +kernel
def ax_isS (own : String) (ix : Nat) : Jvm.Cond → Bool
  | .stringRef o i _ => decide (o = own) && decide (i = ix)
  | _ => false
theorem ax_tS_all : ax_tS.all (fun e => lw_tbl.any (ax_isS (ax_cn e.1) e.2)) = true := by decide +kernel
theorem ax_tS_ok (e : Nat × Nat) (he : e ∈ ax_tS) : ∃ tx, ax_w (.stringRef (ax_cn e.1) e.2 tx) := by
  obtain ⟨w, hw, hs⟩ := List.any_eq_true.mp (List.all_eq_true.mp ax_tS_all e he)
  unfold ax_isS at hs
  split at hs
  · rename_i o i tx
    simp only [Bool.and_eq_true, decide_eq_true_eq] at hs
    obtain ⟨rfl, rfl⟩ := hs
    exact ⟨tx, hw, rfl⟩
  · cases hs
section AxThrow
variable {D : va_G} {dA : Nat → ClassId} {b base : Nat} {p : Program} {l : Launch} {e : Env} {R : Room} {s : State} {m : MethodId} {args : Array Value} {below : List Frame} {meth : Method} {c : Code} {T : State} {locs : List Loc} {cells slots : Nat}
theorem ax_throwR (X : Stand p l e R s m args below meth c T locs cells slots) (hx : p.tables.exec = Jvm.exec) {cc : ByteArray} (hb : c.code = cc) {own : Nat} (hown : s.vm.findClass (ax_cn own) = some m.cls) (hG : ∀ w ∈ lw_tbl, ax_gw w = true → w.before args s = true) (hTw : ax_tws base s) (hlo0 : ∀ q ∈ locs, base ≤ q.base) (hbs0 : base ≤ s.heap.size) (htr : e.platform.stackTraces = false) (hlocks : meth.locks = false) (htab : c.exceptionTable.toList = [])
    {ix E ik is pc : Nat} (hX : ((own, ix), (E, ik)) ∈ ax_tX) (hS : (own, is) ∈ ax_tS) {ls : Array Slot} (hsize : ls.size = c.maxLocals) (hd0 : decode cc pc = .ok (.new ix, 3)) (hd1 : decode cc (pc + 3) = .ok (.dup, 1)) (hd2 : decode cc (pc + 4) = .ok (.ldc is, 2)) (hd3 : decode cc (pc + 6) = .ok (.invokespecial ik, 3)) (hd4 : decode cc (pc + 9) = .ok (.athrow, 1))
    (hf : 6 ≤ R.frames) (hl : 82 ≤ R.locals) (hc : cells + 1 ≤ R.cells) (hs : slots + 6 ≤ R.slots) :
    ∃ (U : State) (ce : Cell), Steps p.tables e below (T.setTop (F0 m pc ls [])) U ∧ U.status = .running ∧ Ended U below (.threw T.heap.size) ∧ s.WarmedH U.vm ∧ s.sameButNew ({ U with vm := s.vm } : State) locs (cells + 1) (slots + 6) ∧
      U.heap[T.heap.size]? = some ce ∧ ce.vm = .none ∧ s.vm.findClass (ax_en E) = some ce.cls ∧ U.heap.size = T.heap.size + 1 ∧ ∀ q : Nat, q < T.heap.size → U.heap[q]? = T.heap[q]? := by
  have X0 := ax_reroot X (R' := { frames := R.frames, locals := R.locals, cells := 1, slots := 6 }) (Nat.le_refl _) (Nat.le_refl _) hc hs
  have hal : s.vm.Alike T.vm := X.warmed.alike
  have hG0 : ∀ w ∈ lw_tbl, ax_gw w = true → w.before args (T.setFrames (.invoking m args :: below)) = true := fun w hw hg => ax_gw_keep hg (s := s) (U := T.setFrames (.invoking m args :: below)) X.warmed (hG w hw hg)
  have hTw0 : ax_tws base (T.setFrames (.invoking m args :: below)) := ax_tws_keep (s := s) (U := T.setFrames (.invoking m args :: below)) hal (fun q hq => (ax_low X hlo0 hbs0 q hq : T.heap[q]? = s.heap[q]?)) hTw
  have hown0 : (T.setFrames (.invoking m args :: below)).vm.findClass (ax_cn own) = some m.cls := by
    show T.vm.findClass _ = _
    rw [hal.findClass]; exact hown
  generalize hs0 : T.setFrames (.invoking m args :: below) = s0 at X0 hG0 hTw0 hown0
  have hsz0 : s0.heap.size = T.heap.size := by rw [← hs0]; rfl
  obtain ⟨hk1, hk2, hk3, hE2⟩ := ax_tX_ok _ hX
  obtain ⟨vm', cC, kC, hfc, hkC, -, -, X1, hst1⟩ := X0.newCold hx hown0 (hG0 _ hk1.1 hk1.2) (hG0 _ hk2.1 hk2.2) (hG0 _ hk3.1 hk3.2) (g := F0 m pc ls []) rfl (by rw [hb]; exact hd0) (Nat.le_refl _) (Nat.le_refl _)
  obtain ⟨tx, htx⟩ := ax_tS_ok _ hS
  obtain ⟨k, cf, i, q, -, -, -, -, -, hev⟩ := Cond.stringRef_spec hown0 (hG0 _ htx.1 htx.2)
  have hR : vk_R (ax_cn own) is tx q s0 := vk_R.of (hG0 _ htx.1 htx.2) hev
  have hW : W p l e { frames := R.frames, locals := R.locals, cells := 1, slots := 6 } s0 m args below meth c ((T.setVm vm').pushCell (freshCell cC kC)).heap [] (0 + 1) (0 + 6) (fun U => U.status = .running ∧ Ended U below (.threw T.heap.size) ∧ s0.WarmedH U.vm ∧ s0.sameButNew ({ U with vm := s0.vm } : State) [] (0 + 1) (0 + 6) ∧ ∃ ce, U.heap[T.heap.size]? = some ce ∧ ce.vm = .none ∧ s0.vm.findClass (ax_en E) = some ce.cls) (F0 m (pc + 3) ls [.ref T.heap.size]) := by
    refine lv_dup hx hb hd1 rfl ?_
    refine va_ldcS hx hb hown0 hR hd2 ?_
    intro T2 hT2 X2
    have hcell : T2.heap[T.heap.size]? = some (freshCell cC kC) := by
      rw [hT2]
      show (T.heap.push (freshCell cC kC))[T.heap.size]? = _
      simp
    obtain ⟨U, u1, u2, u3, u4, u5, ce, u6, u7⟩ := X2.ctorThrowS hx htr hown0 (cls := ax_en E) (names := ax_nms) (ic := ik) (by unfold ax_en; split <;> decide) (by decide) (fun a ha => by
        rcases ax_at_all _ hX a ha with h1 | h1
        · exact hG0 a h1.1 h1.2
        · simp only [ax_four, List.mem_cons, List.not_mem_nil, or_false] at h1
          rcases h1 with rfl | rfl | rfl | rfl
          · exact hTw0.1.1
          · exact hTw0.1.2.1
          · exact hTw0.2.1
          · exact hTw0.2.2.1) (fun z hz => absurd hz List.not_mem_nil) hfc hkC hcell (by rw [hsz0]; exact Nat.le_refl _) (msg := .ref q) rfl (g := F0 m (pc + 6) ls [.ref q, .ref T.heap.size, .ref T.heap.size]) rfl hsize rfl rfl (rest := []) rfl (by rw [hb]; exact hd3) (by rw [hb]; exact hd4) (by rw [htab]; exact fun z hz => absurd hz List.not_mem_nil) (by show 2 + 3 < R.frames; omega) (by show 2 * 0 + 1 + (13 * (2 + 1) + 42) ≤ R.locals; omega) hlocks
    exact ⟨U, u1, u2, u3, u4, u5, ce, u6, u7.vm, u7.cls⟩
  obtain ⟨U, hst2, r1, r2, r3, r4, ce, r5, r6, r7⟩ := hW _ rfl X1
  obtain ⟨g₀, hfr⟩ := X.frames_eq
  obtain ⟨th, hth, -⟩ := State.frames_cons hfr
  have hTU : T.sameButNew ({ U with vm := T.vm } : State) [] 1 6 := by
    subst hs0
    obtain ⟨w1, w2, w3, w4, w5, w6⟩ := r4
    refine ⟨?_, w2, w3, w4, w5, w6⟩
    rw [State.setFrames_setFrames] at w1
    exact w1
  refine ⟨U, ce, hst1 _ hst2, r1, r2, ?_, ?_, r5, r6, ?_, ?_, ?_⟩
  · subst hs0
    exact State.WarmedH.trans X.warmed r3
  · have := X.same.trans (hTU.setVm s.vm)
    rw [List.append_nil] at this
    exact this
  · have : T.vm.findClass (ax_en E) = some ce.cls := by subst hs0; exact r7
    rw [hal.findClass] at this
    exact this
  · obtain ⟨w1, w2, w3, w4, w5, w6⟩ := hTU
    have hlt : T.heap.size < U.heap.size := (Array.getElem?_eq_some_iff.mp r5).1
    have : U.heap.size ≤ T.heap.size + 1 := by first | exact w3 | exact w4 | exact w5
    omega
  · intro j hj
    exact ax_same_low (base := T.heap.size) hTU (fun z hz => absurd hz List.not_mem_nil) (Nat.le_refl _) j hj
end AxThrow
end
section
/-! the abstract machine tells the truth of the machine -/
theorem ax_s_heap {i : Instr} {nx tg : Nat} {lv : ax_L} {st : List Value} {h : ax_H} {s' : ax_S} (hs : ax_s i nx tg lv st h = some s') : s'.2.2.2 = h := by
  cases i <;> simp only [ax_s, ax_load, ax_store1, ax_store2, ax_iinc, ax_ii, ax_ll, ax_lshl, ax_i1, ax_l1, ax_dup] at hs <;> (repeat' split at hs) <;> first | (cases hs; rfl) | cases hs
section AxLen
variable {C : Nat → List Value → ax_H → ax_R → Prop} {M : ax_M} {r : ax_R}
def ax_le (h : ax_H) (r : ax_R) : Prop := h.1.length ≤ r.2.1.length ∧ h.2 ≤ r.2.2
theorem ax_le_set {h : ax_H} {a : Nat} {c : Option ax_C} (k : ax_le (h.1.set a c, h.2) r) : ax_le h r := ⟨by have := k.1; simpa using this, k.2⟩
theorem ax_le_push {h : ax_H} {c : Option ax_C} {n : Nat} (k : ax_le (h.1 ++ [c], h.2 + n) r) : ax_le h r := by
  obtain ⟨k1, k2⟩ := k
  have e1 : (h.1 ++ [c]).length = h.1.length + 1 := by simp
  have k1' : (h.1 ++ [c]).length ≤ r.2.1.length := k1
  have k2' : h.2 + n ≤ r.2.2 := k2
  exact ⟨by omega, by omega⟩
theorem ax_le_trans {h h1 : ax_H} {z : Option Value ⊕ Nat} (a : ax_le h (z, h1)) (k : ax_le h1 r) : ax_le h r := ⟨Nat.le_trans a.1 k.1, Nat.le_trans a.2 k.2⟩
theorem ax_le_call (hC : ∀ mi as h r, C mi as h r → ax_le h r) {ix pc nx : Nat} {lv : ax_L} {st : List Value} {h : ax_H} (hb : ax_call C M ix pc nx lv st h r (fun _ _ _ h => ax_le h r)) : ax_le h r := by
  obtain ⟨mi, n, -, -, -, ⟨v, h1, c, k⟩ | ⟨E, h1, c, -, ⟨t, -, k⟩ | ⟨-, hr⟩⟩⟩ := hb
  · exact ax_le_trans (hC _ _ _ _ c) k
  · exact ax_le_trans (hC _ _ _ _ c) k
  · rw [hr]
    exact hC _ _ _ _ c
theorem ax_len_go (hC : ∀ mi as h r, C mi as h r → ax_le h r) {pc : Nat} {lv : ax_L} {st : List Value} {h : ax_H} (hg : ax_go C M r pc lv st h) : ax_le h r := by
  refine hg (fun _ _ _ h => ax_le h r) ?_
  intro pc lv st h ⟨i, nx, tg, hd, q⟩
  rcases q with ⟨s', hs, k⟩ | hb
  · rw [ax_s_heap hs] at k
    exact k
  · cases i with
    | ldc ix => obtain ⟨v, a, k⟩ := hb; exact k
    | ldc2_w ix => obtain ⟨v, a, k⟩ := hb; exact k
    | idiv => obtain ⟨x, y, s, a, b, k⟩ := hb; exact k
    | ldiv => obtain ⟨x, y, s, a, b, k⟩ := hb; exact k
    | lrem => obtain ⟨x, y, s, a, b, k⟩ := hb; exact k
    | if_icmp c o =>
      obtain ⟨x, y, s, a, k1, k2⟩ := hb
      by_cases hc : ax_cnd c x y
      · exact k1 hc
      · exact k2 hc
    | ifCond c o =>
      obtain ⟨x, s, a, k1, k2⟩ := hb
      by_cases hc : ax_cnd c x 0
      · exact k1 hc
      · exact k2 hc
    | ifnull o => obtain ⟨v, s, a, ⟨-, k⟩ | ⟨-, k⟩⟩ := hb <;> exact k
    | ifnonnull o => obtain ⟨v, s, a, ⟨-, k⟩ | ⟨-, k⟩⟩ := hb <;> exact k
    | tableswitch d lo hi offs => obtain ⟨x, s, t, a, b, k⟩ := hb; exact k
    | lookupswitch d ps => obtain ⟨x, s, a, k⟩ := hb; exact k
    | getfield ix => obtain ⟨a, s, ci, k, fs, v, a1, a2, a3, a4, q⟩ := hb; exact q
    | putfield ix => obtain ⟨a, v, s, ci, k, fs, a1, a2, a3, a4, a5, a6, a7, q⟩ := hb; exact ax_le_set q
    | iaload => obtain ⟨a, j, s, k, n, f, a1, a2, a3, a4, q⟩ := hb; exact q
    | caload => obtain ⟨a, j, s, n, f, a1, a2, a3, q⟩ := hb; exact q
    | laload => obtain ⟨a, j, s, n, f, a1, a2, a3, q⟩ := hb; exact q
    | aaload => obtain ⟨a, j, s, k, n, f, a1, a2, a3, a4, q⟩ := hb; exact q
    | iastore => obtain ⟨a, j, x, s, n, f, a1, a2, a3, q⟩ := hb; exact ax_le_set q
    | castore => obtain ⟨a, j, x, s, n, f, a1, a2, a3, q⟩ := hb; exact ax_le_set q
    | lastore => obtain ⟨a, j, x, s, n, f, a1, a2, a3, q⟩ := hb; exact ax_le_set q
    | aastore => obtain ⟨a, j, o, s, k, n, f, a1, a2, a3, a4, a5, q⟩ := hb; exact ax_le_set q
    | arraylength => obtain ⟨a, s, k, n, z, a1, a2, a3, q⟩ := hb; exact q
    | newarray t => obtain ⟨n, s, k, a1, a2, a3, a4, q⟩ := hb; exact ax_le_push q
    | anewarray ix => obtain ⟨n, s, k, a1, a2, a3, a4, q⟩ := hb; exact ax_le_push q
    | new ix =>
      rcases hb with ⟨ci, a, q⟩ | ⟨E, ik, is, -, -, -, -, -, -, -, -, hr⟩
      · exact ax_le_push q
      · rw [hr]
        exact ax_le_push (c := none) (n := 6) ⟨Nat.le_refl _, Nat.le_refl _⟩
    | invokestatic ix => exact ax_le_call (lv := lv) (nx := nx) hC hb
    | invokevirtual ix => exact ax_le_call (lv := lv) (nx := nx) hC hb.2
    | invokespecial ix =>
      rcases hb with ⟨a1, a, s, a2, a3, q⟩ | hb
      · exact q
      · exact ax_le_call (lv := lv) (nx := nx) hC hb.2
    | ireturn => obtain ⟨x, rt, -, -, -, hr⟩ := hb; rw [hr]; exact ⟨Nat.le_refl _, Nat.le_refl _⟩
    | lreturn => obtain ⟨x, -, -, hr⟩ := hb; rw [hr]; exact ⟨Nat.le_refl _, Nat.le_refl _⟩
    | areturn => obtain ⟨x, n, -, -, -, hr⟩ := hb; rw [hr]; exact ⟨Nat.le_refl _, Nat.le_refl _⟩
    | return_ => obtain ⟨-, -, hr⟩ := hb; rw [hr]; exact ⟨Nat.le_refl _, Nat.le_refl _⟩
    | _ => exact False.elim hb
end AxLen
theorem ax_dfl_nr : (List.range 10).all (fun ci => (ax_dfl ci).all (fun v => match v with | .ref _ => false | _ => true)) = true := by decide +kernel
theorem ax_dfl_map {b base ci : Nat} (h : ci < 10) : (ax_dfl ci).map (ax_v b base) = ax_dfl ci := by
  have h1 := List.all_eq_true.mp ax_dfl_nr ci (List.mem_range.mpr h)
  conv => rhs; rw [← List.map_id (ax_dfl ci)]
  refine List.map_congr_left (fun v hv => ?_)
  have h2 := List.all_eq_true.mp h1 v hv
  cases v <;> first | rfl | cases h2
section AxSound
variable {D : va_G} {dA : Nat → ClassId} {b base : Nat} {p : Program} {l : Launch} {e : Env} {R : Room} {s : State} {m : MethodId} {args : Array Value} {below : List Frame} {meth : Method} {c : Code} {nL : Nat} {h0 : ax_H} {r : ax_R} {M : ax_M} {y : MethodName} {bs : ByteArray} {fr lo : Nat}
/-- an answer -/
theorem ax_ret_of {pc : Nat} {lv : ax_L} {st : List Value} {h : ax_H} {v : Option Value} (hr : r = (.inl v, h))
    (row : ∀ (H : Heap) (locs : List Loc) (ls : Array Slot), ax_rep D dA b base s h H → (∀ q ∈ locs, base ≤ q.base) → W p l e R s m args below meth c H locs (h.1.length - h0.1.length) (h.2 - h0.2) (MQ below (fun _ s o t => o = .returned (v.map (ax_v b base)) ∧ ax_rep D dA b base s h t.heap) args s (h.1.length - h0.1.length) (h.2 - h0.2) (fun a => base ≤ a)) (F0 m pc ls (st.map (ax_v b base)))) :
    ax_P D dA b base p l e R s m args below meth c nL h0 r pc lv st h := by
  subst hr
  refine ⟨Nat.le_refl _, Nat.le_refl _, fun g1 g2 H locs ls hl hr hq T hT X => ?_⟩
  obtain ⟨t, st1, o, h1, h2, ⟨h3, h4⟩, L, ⟨-, h5, h6⟩, h7⟩ := row H locs ls hr hq T hT X
  exact ⟨t, st1, o, h1, h2, h3, h4, h5, L, h6, h7⟩
theorem ax_new_sound (hbb : b < base) (hx : p.tables.exec = Jvm.exec) (hbs : c.code = bs) (hown : s.vm.findClass (ax_cn M.1) = some m.cls) (hG : ∀ w ∈ lw_tbl, ax_gw w = true → w.before args s = true) (hK : va_K D classes (ax_tys dA) s) (hRc : r.2.1.length - h0.1.length ≤ R.cells) (hRs : r.2.2 - h0.2 ≤ R.slots)
    {ix ci pc : Nat} (hN : ax_tN.lookup (ax_key M ix) = some ci) (hd : decode bs pc = .ok (.new ix, 3)) {lv : ax_L} {st : List Value} {h : ax_H} (k : ax_P D dA b base p l e R s m args below meth c nL h0 r (pc + 3) lv (.ref h.1.length :: st) (h.1 ++ [some (.inr (ci, ax_dfl ci))], h.2 + (ax_dfl ci).length)) :
    ax_P D dA b base p l e R s m args below meth c nL h0 r pc lv st h := by
  have hW : ∀ {w : Jvm.Cond}, ax_w w → w.before args s = true := fun hw => hG _ hw.1 hw.2
  obtain ⟨hcl, hlt⟩ := ax_tN_ok _ (ax_lookup2_in hN)
  obtain ⟨q, hq⟩ : ∃ q, classes[ci]? = some q := ⟨classes[ci]'hlt, List.getElem?_eq_getElem _⟩
  obtain ⟨C, T, N⟩ := q
  obtain ⟨hn1, hn2, hn3, hn4⟩ := ax_cn_ok ci _ hq
  refine ax_P_push hbb hRc hRs k (fun H locs cells slots Q ls hl hr hc1 hs1 kk => ?_)
  have htop := ax_rep_top hr
  rw [htop] at kk
  rw [hn4] at kk hs1
  refine ax_newR (D := D) (cl := classes) (tys := ax_tys dA) (fs := ax_dfl ci) hx hbs (fun w hw => hW (ax_cls_ok ci _ hq w hw)) (ax_ty ci) (ax_ty_ok ci _ hq) hown (by rw [show C = ax_cn ci from hn1]; exact hW hcl) (hW hn2) (hW hn3) hK hq (fun j hj => ?_) hc1 hs1 hd (fun H1 ha hz ho => kk H1 ?_ hz ho)
  · have h1 := ax_each_at ax_dfl_all hq hj
    simp only [Bool.and_eq_true, decide_eq_true_eq] at h1
    exact h1.1
  · show va_at D classes (ax_ad b base h.1.length, .inr (ci, (ax_dfl ci).map (ax_v b base))) H1
    rw [htop, ax_dfl_map hlt]
    exact ha
theorem ax_thr_sound (ctx : ax_ctx D dA b base p e R s m args meth c M y bs nL fr lo) (hRc : r.2.1.length - h0.1.length ≤ R.cells) (hRs : r.2.2 - h0.2 ≤ R.slots) (hall : M.2.2.1.all (ax_okI bs nL) = true) {pc nx ix E ik is : Nat} {tg : Nat} (hdi : M.2.2.1.lookup pc = some (.new ix, nx, tg)) (hX : ax_tX.lookup (ax_key M ix) = some (E, ik)) (hh : M.2.2.2.1 = []) (h1 : M.2.2.1.lookup nx = some (.dup, nx + 1, 0)) (h2 : M.2.2.1.lookup (nx + 1) = some (.ldc is, nx + 3, 0)) (h3 : ax_key M is ∈ ax_tS) (h4 : M.2.2.1.lookup (nx + 3) = some (.invokespecial ik, nx + 6, 0)) (h5 : M.2.2.1.lookup (nx + 6) = some (.athrow, nx + 7, 0)) {lv : ax_L} {h : ax_H} (hr : r = (.inr E, (h.1 ++ [none], h.2 + 6))) (hf6 : 6 ≤ fr) (hl82 : 82 ≤ lo) :
    ax_P D dA b base p l e R s m args below meth c nL h0 r pc lv [] h := by
  obtain ⟨hbb, hx, hbs, hnL, hret, hlocks, htab, hown, hname, hG, hK, hTw, hNc, hNd, hbase, hfrR, hloR, htr⟩ := ctx
  obtain ⟨-, q0, -⟩ := ax_okI_at hall hdi
  obtain ⟨d0, rfl⟩ := q0 rfl
  have d1 := (ax_okI_at hall h1).1
  have d2 := (ax_okI_at hall h2).1
  have d3 := (ax_okI_at hall h4).1
  have d4 := (ax_okI_at hall h5).1
  have htop := fun {s : State} {H : Heap} (hq : ax_rep D dA b base s h H) => ax_rep_top hq
  have hXm := ax_lookup2_in hX
  subst hr
  have e1 : (h.1 ++ [(none : Option ax_C)]).length = h.1.length + 1 := by simp
  refine ⟨by show h.1.length ≤ (h.1 ++ [(none : Option ax_C)]).length; omega, Nat.le_add_right _ _, fun g1 g2 H locs ls hl hr hq T hT X => ?_⟩
  subst hT
  have hRc' : (h.1 ++ [(none : Option ax_C)]).length - h0.1.length ≤ R.cells := hRc
  have hRs' : h.2 + 6 - h0.2 ≤ R.slots := hRs
  obtain ⟨U, ce, u1, u2, u3, u4, u5, u6, u7, u8, u9, u10⟩ := ax_throwR X hx hbs hown hG hTw hq hbase htr hlocks (by rw [hh] at htab; exact List.map_eq_nil_iff.mp htab) hXm h3 (by rw [hnL]; exact hl.1) d0 (by rw [show ax_len (.new ix) = 3 from rfl] at d1; simpa using d1) (by rw [show ax_len (.new ix) = 3 from rfl] at d2; simpa using d2) (by rw [show ax_len (.new ix) = 3 from rfl] at d3; simpa using d3) (by rw [show ax_len (.new ix) = 3 from rfl] at d4; simpa using d4) (by omega) (by omega) (by omega) (by omega)
  have ht := htop hr
  have hpos := ax_rep_pos hr
  have e2 : (h.1 ++ [(none : Option ax_C)]).length - 1 = h.1.length := by omega
  refine ⟨U, u1, .threw T.heap.size, u2, u3, ⟨⟨by show 1 < (h.1 ++ [(none : Option ax_C)]).length; omega, ce, ?_⟩, ?_, u4, locs, ?_, hq⟩⟩
  · show Outcome.threw T.heap.size = .threw (ax_ad b base ((h.1 ++ [(none : Option ax_C)]).length - 1)) ∧ U.heap[ax_ad b base ((h.1 ++ [(none : Option ax_C)]).length - 1)]? = some ce ∧ _
    rw [e2, ht]
    exact ⟨rfl, u6, u7, u8⟩
  · refine ax_rep_push hbb hr ⟨ce, ?_, u7⟩ u9 u10
    rw [ht]
    exact u6
  · show s.sameButNew _ locs ((h.1 ++ [(none : Option ax_C)]).length - h0.1.length) (h.2 + 6 - h0.2)
    have c1 : (h.1 ++ [(none : Option ax_C)]).length - h0.1.length = h.1.length - h0.1.length + 1 := by omega
    have c2 : h.2 + 6 - h0.2 = h.2 - h0.2 + 6 := by omega
    rw [c1, c2]
    exact u5
theorem ax_step_sound {mi : Nat} (hpr : ax_pr[mi]? = some M) (hmm : ax_mm[mi]? = some (y, bs, nL, fr, lo)) (ctx : ax_ctx D dA b base p e R s m args meth c M y bs nL fr lo) (hRc : r.2.1.length - h0.1.length ≤ R.cells) (hRs : r.2.2 - h0.2 ≤ R.slots)
    {pc : Nat} {lv : ax_L} {st : List Value} {h : ax_H} (q : ax_step (ax_Snd D dA b base l) M pc lv st h r (ax_P D dA b base p l e R s m args below meth c nL h0 r)) : ax_P D dA b base p l e R s m args below meth c nL h0 r pc lv st h := by
  obtain ⟨hall, hpl, hini, hcls, -, hcs, hsok⟩ := ax_mt_ok mi M _ hpr hmm
  have ctx0 := ctx
  obtain ⟨hbb, hx, hbs, hnL, hret, hlocks, htab, hown, hname, hG, hK, hTw, hNc, hNd, hbase, hfrR, hloR, htr⟩ := ctx
  have hW : ∀ {w : Jvm.Cond}, ax_w w → w.before args s = true := fun hw => hG _ hw.1 hw.2
  obtain ⟨i, nx, tg, hd, q⟩ := q
  have hI : ax_It bs nL pc i nx tg := ax_okI_at hall hd
  have hC : ax_okC fr lo M.1 i = true := List.all_eq_true.mp hcs _ (ax_lookup_in hd)
  rcases q with ⟨s', hs, k⟩ | hb
  · refine ⟨by rw [← ax_s_heap hs]; exact k.1, by rw [← ax_s_heap hs]; exact k.2.1, fun g1 g2 H locs ls hl hr hq => ?_⟩
    have hh := ax_s_heap hs
    refine (ax_s_sound hx hbs hI hs).2 ls hl (fun ls' hl' => ?_)
    have k2 := k.2.2
    rw [hh] at k2
    exact k2 g1 g2 H locs ls' hl' hr hq
  · by_cases hm : ax_mid i = true
    · exact ax_mid_sound hbb hx hbs hown (fun z => by rw [hname]; exact hini z) hG hK hRc hRs hm hI hb
    · obtain ⟨-, hd0, -⟩ := hI
      cases i with
      | invokestatic ix =>
        obtain ⟨hdd, rfl⟩ := hd0 rfl
        obtain ⟨mi1, n, ht, hn, hw, hcall⟩ := hb
        obtain ⟨y1, bs1, nL1, fr1, lo1, hm1, hf, hlk, w1, w2, w3⟩ := ax_okS_at hC ht
        obtain ⟨M1, hp1⟩ : ∃ M1, ax_pr[mi1]? = some M1 := ax_pr_of hm1
        exact ax_call_sound ctx0 hRc hRs hsok hdd hp1 hm1 hf.1 hf.2.1 hf.2.2.1 hw (ax_dispS hx hbs hown hG hp1 hm1 hf.1 hf.2.2.2 hlk w1 w2 w3 hdd hn) hcall
      | invokevirtual ix =>
        obtain ⟨hdd, rfl⟩ := hd0 rfl
        obtain ⟨⟨mi2, n2, a, as, fs, ht2, hsp, hob⟩, mi1, n, ht, hn, hw, hcall⟩ := hb
        cases ht2.symm.trans ht
        obtain ⟨y1, bs1, nL1, fr1, lo1, hm1, hf, hlk, w1, w2, w3, w4⟩ := ax_okV_at hC ht
        obtain ⟨M1, hp1⟩ := ax_pr_of hm1
        exact ax_call_sound ctx0 hRc hRs hsok hdd hp1 hm1 hf.1 hf.2.1 hf.2.2.1 hw (ax_dispV hx hbs hown hG hK hp1 hm1 hf.1 hf.2.2.2 hlk w1 w2 w3 w4 hdd hn hsp hob) hcall
      | invokespecial ix =>
        obtain ⟨hdd, rfl⟩ := hd0 rfl
        rcases hb with ⟨hO, a, st', rfl, hw, k⟩ | ⟨⟨mi2, n2, a, as, ht2, hsp⟩, mi1, n, ht, hn, hw, hcall⟩
        · have hO' : (M.1, ix) ∈ ax_tO := hO
          simp only [ax_okC, hO', if_true, Bool.and_eq_true, decide_eq_true_eq] at hC
          refine ax_P_same k (fun H locs cells slots Q ls hl hr kk => ?_)
          refine W.objInit hx hbs hown (hW (ax_tO_ok _ hO')) (hW ax_oi_ok.1) (hW ax_oi_ok.2) (g := F0 m pc ls ((Value.ref a :: st').map (ax_v b base))) rfl (by rw [hnL]; exact hl.1) (a := ax_ad b base a) (rest := st'.map (ax_v b base)) rfl hdd (by omega) ?_ (kk ls hl)
          show 2 * 0 + ((st'.map (ax_v b base)).map fun v => v.category).sum + 12 ≤ R.locals
          rw [ax_wsum_map]
          omega
        · cases ht2.symm.trans ht
          have hnO : ¬ (M.1, ix) ∈ ax_tO := fun z => ax_tO_tM _ z (ax_lookup2_in ht)
          have hnX : ¬ (M.1, ix) ∈ ax_tX.map (fun q => (q.1.1, q.2.2)) := fun z => ax_tX_tM _ z (ax_lookup2_in ht)
          simp only [ax_okC, hnO, hnX, if_false] at hC
          obtain ⟨y1, bs1, nL1, fr1, lo1, hm1, hf, hlk, w1, w2, w3, w4⟩ := ax_okN_at hC ht
          obtain ⟨M1, hp1⟩ := ax_pr_of hm1
          exact ax_call_sound ctx0 hRc hRs hsok hdd hp1 hm1 hf.1 hf.2.1 hf.2.2.1 hw (ax_dispN hx hbs hown hG hp1 hm1 hf.1 hf.2.2.2 hlk w1 w2 w3 w4 hdd hn hsp) hcall
      | new ix =>
        rcases hb with ⟨ci, hN, k⟩ | ⟨E, ik, is, hX, rfl, hh, h1, h2, h3, h4, h5, hr⟩
        · obtain ⟨hdd, rfl⟩ := hd0 rfl
          exact ax_new_sound hbb hx hbs hown hG hK hRc hRs hN hdd k
        · have hX' : (M.1, ix) ∈ ax_tX.map (fun q => q.1) := List.mem_map.mpr ⟨_, ax_lookup2_in hX, rfl⟩
          simp only [ax_okC, hX', if_true, Bool.and_eq_true, decide_eq_true_eq] at hC
          exact ax_thr_sound ctx0 hRc hRs hall hd hX hh h1 h2 h3 h4 h5 hr hC.1 hC.2
      | ireturn =>
        obtain ⟨hdd, rfl⟩ := hd0 rfl
        obtain ⟨x, rt, rfl, hrt, hnw, hr⟩ := hb
        exact ax_ret_of hr (fun H locs ls hrep hq => W.zret hx hbs (hret.trans hrt) hnw (fun t ht _ => ⟨rfl, by rw [ht]; exact hrep⟩) hq hdd hlocks)
      | lreturn =>
        obtain ⟨hdd, rfl⟩ := hd0 rfl
        obtain ⟨x, rfl, hrt, hr⟩ := hb
        exact ax_ret_of hr (fun H locs ls hrep hq => W.lret hx hbs (hret.trans hrt) (fun t ht _ => ⟨rfl, by rw [ht]; exact hrep⟩) hq hdd hlocks)
      | areturn =>
        obtain ⟨hdd, rfl⟩ := hd0 rfl
        obtain ⟨v, n, rfl, hrt, hv, hr⟩ := hb
        exact ax_ret_of hr (fun H locs ls hrep hq => W.aret hx hbs (hret.trans hrt) (Or.inl ⟨n, rfl⟩) (by cases v <;> first | exact Or.inl rfl | exact Or.inr ⟨_, rfl⟩ | cases hv) (fun t ht _ => ⟨rfl, by rw [ht]; exact hrep⟩) hq hdd hlocks)
      | return_ =>
        obtain ⟨hdd, rfl⟩ := hd0 rfl
        obtain ⟨rfl, hrt, hr⟩ := hb
        exact ax_ret_of hr (fun H locs ls hrep hq => W.vret hx hbs (hret.trans hrt) (fun t ht _ => ⟨rfl, by rw [ht]; exact hrep⟩) hq hdd hlocks)
      | _ => exact absurd rfl hm
end AxSound
theorem ax_sl_len (as : List Value) : (lg_sl as).length ≤ ax_wsum as := by
  induction as with
  | nil => exact Nat.le_refl _
  | cons v as ih =>
    have e1 : lg_sl (v :: as) = (if v.category = 2 then [.val v, .second] else [.val v]) ++ lg_sl as := by simp [lg_sl]
    have e2 : ax_wsum (v :: as) = v.category + ax_wsum as := by simp [ax_wsum]
    have e3 : 1 ≤ v.category := by cases v <;> exact Nat.le_of_ble_eq_true rfl
    rw [e1, e2, List.length_append]
    by_cases hc : v.category = 2
    · rw [if_pos hc]
      simp only [List.length_cons, List.length_nil]
      omega
    · rw [if_neg hc]
      simp only [List.length_cons, List.length_nil]
      omega
/-- THE SOUNDNESS -/
theorem ax_sound (D : va_G) (dA : Nat → ClassId) (b base : Nat) (l : Launch) {mi : Nat} {as : List Value} {h : ax_H} {r : ax_R} (hrun : ax_run mi as h r) : ax_Snd D dA b base l mi as h r := by
  refine hrun (ax_Snd D dA b base l) ?_
  intro mi as h r ⟨M, hM, hw, hgo⟩
  have hle : ax_le h r := ax_len_go (fun _ _ _ _ q => ⟨q.1, q.2.1⟩) hgo
  refine ⟨hle.1, hle.2, fun M' y bs nL fr lo hpr hmm p e R s m below meth c ctx hRc hRs hrep => ?_⟩
  cases hM.symm.trans hpr
  have hP := hgo (ax_P D dA b base p l e R s m (as.map (ax_v b base)).toArray below meth c nL h r) (fun pc lv st h1 q => ax_step_sound hpr hmm ctx hRc hRs q)
  have hnl : ax_nl mi = nL := by simp only [ax_nl, hmm]
  have hsl : (lg_sl (as.map (ax_v b base))).length ≤ nL := by
    have h1 := ax_sl_len (as.map (ax_v b base))
    have h2 : ax_wsum (as.map (ax_v b base)) = ax_wsum as := ax_wsum_map b base as
    omega
  rw [lg_entry_eq]
  have hent := lv_entry (as.map (ax_v b base)) hsl
  rw [show lv_args 0 (as.map (ax_v b base)) = ax_lm b base (lv_args 0 as) from (ax_lm_args b base as 0).symm] at hent
  have := hP.2.2 (Nat.le_refl _) (Nat.le_refl _) s.heap [] _ hent hrep (fun q hq => absurd hq List.not_mem_nil)
  rw [Nat.sub_self, Nat.sub_self] at this
  exact this
end
section
/-! THE CLAIM OUT OF A RUN OF THE LAW ON THE ABSTRACT MACHINE -/
def R_law : String := "MakingLimitsLaw"
def lw_P (b : Addr) (xs : List Int32) (args : Array Value) (s : State) : Prop := args = #[.ref b] ∧ s.IntsAt b xs ∧ xs.length ≤ 3584 ∧ (Jvm.Cond.and given_1 narrow_1).before args s = true
def lw_Q (_ : Array Value) (s : State) (o : Outcome) (t : State) : Prop := o = .returned (some (.int 1)) ∧ Framed s o t [] 601024 7293034
def lw_Z (below : List Frame) (a : Array Value) (s : State) : State → Prop := fun t => ∃ o, t.status = .running ∧ Ended t below o ∧ lw_Q a s o t
def lw_At (p : Program) (s : State) (m : MethodId) (meth : Method) (c : Code) (b L : Nat) (xs : Nat → Int32) : Prop :=
  p.tables.exec = Jvm.exec ∧ c.code = code ∧ meth.sig.returnType = ret ∧ c.maxLocals = 8 ∧ s.vm.findClass R_law = some m.cls ∧ (∀ w ∈ lw_tbl, w.before #[Value.ref b] s = true) ∧ va_X b L xs s s.heap ∧ b < s.heap.size ∧ meth.locks = false ∧ (Jvm.Cond.and given_1 narrow_1).before #[Value.ref b] s = true ∧ meth.name = x.name ∧ c.exceptionTable.toList = []
/-- what is to be shown of the abstract machine -/
def ax_lawful : Prop := ∀ (L : Nat) (xs : Nat → Int32), L ≤ 3584 → ∃ h1 : ax_H, ax_run m_La_law [.ref 0] ([some (.inl (9, L, .inl xs))], 0) (.inl (some (.int 1)), h1) ∧ h1.1.length ≤ 601025 ∧ h1.2 ≤ 7293034
theorem ax_four_tbl : Jvm.Cond.laysStatic Bundle.tN "UNASSIGNED_STACK" Bundle.steD ∈ lw_tbl ∧ Jvm.Cond.laysStatic Bundle.tN "SUPPRESSED_SENTINEL" Bundle.listD ∈ lw_tbl := by decide +kernel
theorem ax_tw1_of {C n d : String} {A : Array Value} {s : State} (h1 : (Jvm.Cond.laysStatic C n d).before A s = true) (h2 : (Jvm.Cond.isRef (.static C n d)).before A s = true) : ax_tw1 s.heap.size C n d s := by
  refine ⟨h1, h2, fun c k i f a g1 g2 => ?_⟩
  obtain ⟨c', k', i', f', a', cell, hc, hi, hst, ha, hcell, -⟩ := Cond.laysStatic_spec h1
  cases hi.symm.trans g1
  cases ha.symm.trans g2
  exact (Array.getElem?_eq_some_iff.mp hcell).1
theorem ax_world {A : Array Value} {s : State} (hts : ∀ w ∈ lw_tbl, w.before A s = true) : ∃ (D : va_G) (dA : Nat → ClassId), va_K D classes (ax_tys dA) s := by
  have hW : ∀ {w : Jvm.Cond}, ax_w w → w.before A s = true := fun hw => hts _ hw.1
  have h1 : ∀ ci : Nat, ∃ (cC : ClassId) (iS : Nat → Nat), ∀ q, classes[ci]? = some q → u_Kn s q.1 q.2.1 q.2.2 cC iS := by
    intro ci
    cases hq : classes[ci]? with
    | none => exact ⟨0, fun _ => 0, fun q h => by cases h⟩
    | some q =>
      obtain ⟨cC, iS, h⟩ := u_known (ws := lw_tbl) hts (fun w hw => (ax_cls_ok ci q hq w hw).1) (hW (ax_cn_ok ci q hq).2.1)
      exact ⟨cC, iS, fun q' h' => by cases h'; exact h⟩
  obtain ⟨cI, kI, compI, i1, i2, i3⟩ := Cond.arrayClass_spec (hW ax_arI)
  obtain ⟨cJ, kJ, compJ, j1, j2, j3⟩ := Cond.arrayClass_spec (hW ax_arJ)
  obtain ⟨cC, kC, compC, c1, c2, c3⟩ := Cond.arrayClass_spec (hW ax_arC)
  obtain ⟨compO, cO, kO, o1, -, o2, o3, o4⟩ := Cond.arrayOver_spec (hW ax_ovO)
  obtain ⟨compG, cG, kG, g1, -, g2, g3, g4⟩ := Cond.arrayOver_spec (hW ax_ovG)
  refine ⟨(fun ci => Classical.choose (h1 ci), fun ci => Classical.choose (Classical.choose_spec (h1 ci))), fun k => match k with | 0 => cI | 1 => cJ | 2 => cC | 3 => cO | _ => cG, fun ci q hq => Classical.choose_spec (Classical.choose_spec (h1 ci)) q hq, fun k q hk => ?_⟩
  have hl : k < 5 := (List.getElem?_eq_some_iff.mp hk).1
  match k, hl, hk with
  | 0, _, hk => cases hk; exact ⟨fun n z => ⟨fun k h => (by cases h), kI, i2, compI, i3⟩, i1⟩
  | 1, _, hk => cases hk; exact ⟨fun n z => ⟨fun k h => (by cases h), kJ, j2, compJ, j3⟩, j1⟩
  | 2, _, hk => cases hk; exact ⟨fun n z => ⟨fun k h => (by cases h), kC, c2, compC, c3⟩, c1⟩
  | 3, _, hk => cases hk; exact ⟨fun n z => ⟨fun k h => (by cases h), kO, o2, compO, o3⟩, kO, compO, o2, o3, o1, o4⟩
  | 4, _, hk => cases hk; exact ⟨fun n z => ⟨fun k h => (by cases h), kG, g2, compG, g3⟩, kG, compG, g2, g3, g1, g4⟩
theorem ax_frame {s t : State} {L : List Loc} {k n k' n' : Nat} (h : s.sameButNew t L k n) (hL : ∀ q ∈ L, s.heap.size ≤ q.base) (hk : k ≤ k') (hn : n ≤ n') : s.sameButNew t [] k' n' := by
  obtain ⟨h1, h2, h3, h4, h5, h6⟩ := h
  refine ⟨h1, h2, by omega, h4, by omega, fun a c hc => ?_⟩
  obtain ⟨c', e1, e2, e3, e4⟩ := h6 a c hc
  refine ⟨c', e1, e2, e3, fun i _ => e4 i (fun z => ?_)⟩
  have hl := (Array.getElem?_eq_some_iff.mp hc).1
  have h9 : s.heap.size ≤ a := hL _ z
  omega
theorem whole_start (hlaw : ax_lawful) {p : Program} {e : Env} {s : State} {m : MethodId} {below : List Frame} {meth : Method} {c : Code} (l : Launch) (hfl : l.flags = flags0) {b L : Nat} {xs : Nat → Int32} (hL : L ≤ 3584) (C0 : lw_At p s m meth c b L xs) : W p l e room_1 s m #[Value.ref b] below meth c s.heap [] 0 0 (lw_Z below #[Value.ref b] s) (entryFrame m ([Value.ref b] : List Value).toArray 8) := by
  obtain ⟨hx, hcode, hret, hml, hown, hts, hX, hbl, hlocks, hgv, hnm, htab⟩ := C0
  intro T hT X
  have htr : e.platform.stackTraces = false := Launch.traces_off hfl X.admits
  obtain ⟨D, dA, hK⟩ := ax_world hts
  have hs := flat_of_before _ hgv
  have hN0 : va_Nc (ax_en 1) (ax_en 0) s := va_Nc.of (hs (Jvm.Cond.not (.castable "java/lang/IllegalArgumentException" "java/lang/IndexOutOfBoundsException")) (by decide +kernel))
  have hN1 : va_Nc (ax_en 0) (ax_en 1) s := va_Nc.of (hs (Jvm.Cond.not (.castable "java/lang/IndexOutOfBoundsException" "java/lang/IllegalArgumentException")) (by decide +kernel))
  have hTw : ax_tws s.heap.size s := ⟨ax_tw1_of (hts _ ax_four_tbl.1) (hs (Jvm.Cond.isRef (.static Bundle.tN "UNASSIGNED_STACK" Bundle.steD)) (by decide +kernel)), ax_tw1_of (hts _ ax_four_tbl.2) (hs (Jvm.Cond.isRef (.static Bundle.tN "SUPPRESSED_SENTINEL" Bundle.listD)) (by decide +kernel))⟩
  obtain ⟨h1, hrun, hc1, hc2⟩ := hlaw L xs hL
  have S := ax_sound D dA b s.heap.size l hrun
  have hctx : ax_ctx D dA b s.heap.size p e room_1 s m #[Value.ref b] meth c M_La_law x code 8 10 178 := by
    refine ⟨hbl, hx, hcode, hml, hret, hlocks, ?_, hown, hnm, fun w hw _ => hts w hw, hK, hTw, hN0, hN1, Nat.le_refl _, by decide, by decide, htr⟩
    rw [htab]
    rfl
  have hrep : ax_rep D dA b s.heap.size s ([some (.inl (9, L, .inl xs))], 0) s.heap := by
    refine ⟨⟨L, xs, rfl⟩, rfl, fun i c hi => ?_⟩
    have hl : i < 1 := (List.getElem?_eq_some_iff.mp hi).1
    have h0 : i = 0 := by omega
    subst h0
    cases hi
    exact hX
  have hWW := S.2.2 M_La_law x code 8 10 178 rfl rfl p e room_1 s m below meth c hctx (by show h1.1.length - 1 ≤ 601024; omega) (by show h1.2 - 0 ≤ 7293034; omega) hrep
  obtain ⟨t, st, o, r1, r2, r3, r4, r5, Lc, r6, r7⟩ := hWW T hT X
  have r3' : o = .returned (some (.int 1)) := r3
  subst r3'
  refine ⟨t, st, _, r1, r2, rfl, ⟨_, rfl⟩, r5, ax_frame r6 r7 ?_ ?_⟩
  · show h1.1.length - 1 ≤ 601024
    omega
  · show h1.2 - 0 ≤ 7293034
    omega
set_option maxHeartbeats 4000000 in
theorem lw_walk (hlaw : ax_lawful) (l : Launch) (hfl : l.flags = flags0) (b : Addr) (xs : List Int32) : MetFree l x (headSpec (Jvm.Cond.code x code maxLocals ret :: tables_1) room_1) (lw_P b xs) (fun _ _ _ _ _ => True) lw_Q := by
  refine MetFree.of_bodyS (code := code) (maxLocals := maxLocals) (ret := ret) (by decide) ?_ ?_
  · intro args s m h hn
    obtain ⟨meth, c, h1, h2, h3, h4, h5, h6, -, -⟩ := Cond.code_spec hn (atoms_spec (ws := Jvm.Cond.code x code maxLocals ret :: tables_1) h _ List.mem_cons_self)
    exact ⟨meth, c, h1, h2, h3, h4, h5, h6⟩
  · intro p e s m args below meth c s₁ B hml0 hP _
    obtain ⟨rfl, hx, hbd, hgv⟩ := hP
    obtain ⟨scr, harrAt, hlist, hof, hsmall⟩ := hx
    obtain ⟨hcb, hkn, -, -⟩ := State.arrayAt?_spec harrAt
    have hown : s.vm.findClass R_law = some m.cls := findClass_of_methodNamed B.named
    have hts0 : ∀ c ∈ (Jvm.Cond.code x code maxLocals ret :: tables_1), c.before #[Value.ref b] s = true := atoms_spec (ws := Jvm.Cond.code x code maxLocals ret :: tables_1) B.pre
    have hts : ∀ w ∈ lw_tbl, w.before #[Value.ref b] s = true := k2_hts_sels lw_privs (fun w hw => hts0 w (List.mem_cons_of_mem _ hw)) lw_privs_ok
    have hml : c.maxLocals = 8 := B.maxLocals_eq (hts0 _ List.mem_cons_self)
    have X₀ : Stand p l e room_1 s m #[Value.ref b] below meth c s₁ [] 0 0 := Stand.of_body B
    have hh0 : s₁.heap = s.heap := by rw [B.state]; rfl
    have hsz : scr.slots.size = xs.length := by rw [← Array.length_toList, hlist, List.length_map]
    have hval : ∀ j : Nat, j < xs.length → scr.slots[j]? = some (.int (xs.getD j 0)) := fun j hj => by
      rw [← Array.getElem?_toList, hlist]
      simp [hj]
    have hbl : b < s.heap.size := (Array.getElem?_eq_some_iff.mp hcb).1
    have hX : va_X b xs.length (fun j => xs.getD j 0) s s.heap := ⟨scr, hcb, hof, hkn, hsz, hval⟩
    obtain ⟨methX, cX, hmX, hcX, -, -, -, -, hemX, -⟩ := Cond.code_spec B.named (hts0 _ List.mem_cons_self)
    cases X₀.method.symm.trans hmX
    cases X₀.code.symm.trans hcX
    have hnm : meth.name = x.name := (name_of_methodNamed B.named hmX).1
    have htab : c.exceptionTable.toList = [] := by rw [Array.isEmpty_iff.mp hemX]
    have K : W p l e room_1 s m #[Value.ref b] below meth c s₁.heap [] 0 0 (lw_Z below #[Value.ref b] s) (entryFrame m ([Value.ref b] : List Value).toArray 8) := by
      rw [hh0]
      exact whole_start hlaw l hfl hbd ⟨B.exec, B.bytes, B.returns, hml, hown, hts, hX, hbl, B.notSynchronized, hgv, hnm, htab⟩
    obtain ⟨t, a1, o, b1, b2, b3⟩ := K s₁ rfl X₀
    exact ⟨t, o, a1, b1, b2, b3⟩
theorem lw_pre_spec {args : Array Value} {s : State} (h : (Jvm.Cond.and given_1 narrow_1).before args s = true) (hr : rest_1_c.before args s = true) : ∃ (b : Addr) (xs : List Int32), lw_P b xs args s := by
  have hs := flat_of_before _ h
  have hq := flat_of_before _ hr
  have hc : (Cond.count 1).before args s = true := hs _ (by decide +kernel)
  have harr : (Cond.arrayOf (.arg 0) .int).before args s = true := hs _ (by decide +kernel)
  have hle : (Cond.le (.length (.arg 0)) (.int 3584)).before args s = true := hs _ (by decide +kernel)
  have hlen : (Cond.isInt (.length (.arg 0))).before args s = true := hq _ (by decide +kernel)
  have hall : (Cond.all (.arg 0) (.isInt (.elem (.arg 0) (.index 0)))).before args s = true := hq _ (by decide +kernel)
  obtain ⟨b, xs, hb, hx⟩ := State.ints_of_pre rfl harr hlen hall
  have hsm : xs.length < 2 ^ 31 := hx.choose_spec.2.2.2
  have hev : (Term.length (.arg 0)).eval args s none [] s = some (.int xs.length.toInt32) := hx.length_eval hb
  have hv := Cond.le_ints hev (show (Term.int 3584).eval args s none [] s = some (.int 3584) from rfl)
  have hd : xs.length.toInt32 ≤ 3584 := by
    simpa [Cond.before, Cond.holds, hv] using hle
  have hN : xs.length ≤ 3584 := (Int32.ofNat_le_ofNat hsm (by decide)).mp (show Int32.ofNat xs.length ≤ Int32.ofNat 3584 from hd)
  exact ⟨b, xs, Cond.one_arg hc (show args[0]? = some (.ref b) from hb), hx, hN, h⟩
theorem lw_comes (hlaw : ax_lawful) (l : Launch) (hfl : l.flags = flags0) : Comes l x (Jvm.Cond.code x code maxLocals ret :: tables_1) room_1 (fun tb e args s => Calls_1 tb e args s ∧ rest_1 tb e args s ∧ Pre_1 tb e args s)
    (fun _ _ args s o t => lw_Q args s o t) := by
  intro p e ha hc hk s m args below hf hfit hheap happ hpre
  obtain ⟨b, xs, hP⟩ := lw_pre_spec hpre.2.2 hpre.2.1
  obtain ⟨k, o, h1, h2, h3, hQ⟩ := lw_walk hlaw l hfl b xs p e ha hc hk s m args below hf ((Spec.applies_iff_loose hf).mp happ).1 hP trivial
  exact ⟨k, o, h1, h2, h3, hQ⟩
theorem lw_frame {s t : State} {o : Outcome} {args : Array Value} (h : Framed s o t [] 601024 7293034) :
    Framed s o t (fieldLocs frame_1_writes args s ++ arrayLocs frame_1_arrays args s ++ staticLocs frame_1_statics s) 601024 7293034 := h
theorem lw_limb (hlaw : ax_lawful) (L : Cond) (hL : ∀ (args : Array Value) (s t : State), L.after args s (.returned (some (.int 1))) t = true) :
    ArmFor flags0 classFile x code maxLocals ret World_1 tables_1 room_1 Calls_1 rest_1 Pre_1
      (fun tb e a s o t => postC L tb e a s o t ∧ Framed s o t (fieldLocs frame_1_writes a s ++ arrayLocs frame_1_arrays a s ++ staticLocs frame_1_statics s) 601024 7293034) := by
  intro l hfl _ _ p e ha hc hk s m args below hf hfit hheap happ hpre
  obtain ⟨k, o, h1, h2, h3, rfl, hF⟩ := lw_comes hlaw l hfl p e ha hc hk s m args below hf hfit hheap happ hpre
  exact ⟨k, _, h1, h2, h3, hL args s _, lw_frame hF⟩
theorem ax_vc (hlaw : ax_lawful) : Claimed_1_1 ∧ Claimed_1_2 := ⟨lw_limb hlaw limb_1_1 (fun args s t => by simp [limb_1_1, Cond.after, Cond.holds, Cond.value]), lw_limb hlaw limb_1_2 (fun args s t => Cond.after_iff.mpr (by
  first | (rw [show limb_1_2 = Cond.eq .result (.int 1) from rfl, Cond.eq_ints (x := 1) (y := 1) rfl rfl]; simp; done) | (simp [limb_1_2, Cond.value, Term.eval]; done)))⟩
end
section
/-! the cells of the law's run: 0 the script; 1 to 22 the class's; 23 to 38 the reference's; 39 the law's own; then a pool -/
structure ax_St where
  told : Nat
  tl : Nat
  pl : Nat
  bn : Nat
  rn : Nat
  qn : Nat
  on : Nat
  ch : Nat → Int32
  kinds : Nat → Int32
  values : Nat → Int32
  layers : Nat → Int32
  xs : Nat → Int32
  ys : Nat → Int32
  rt : Nat → Int32
  re : Nat → Int32
  qm : Nat → Int32
  parts : Nat → Int32
  ab : Nat → Int32
  be : Nat → Int32
  of : Nat → Option Nat
  qo : Nat → Option Nat
  qu : Nat → Int64
structure ax_Mo where
  thrown : Int32
  units : Nat
  makers : Nat
  things : Nat
  remarks : Nat
  quotes : Nat
  orders : Nat
  at_ : Nat
  wrong : Int32
  text : Nat → Int32
  classes : Nat → Int32
  kinds : Nat → Int32
  layers : Nat → Int32
  remarkOf : Nat → Int32
  quoteMaker : Nat → Int32
  numbers : Nat → Int64
  values : Nat → Int64
  x : Nat → Int64
  y : Nat → Int64
  excess : Nat → Int64
  until_ : Nat → Int64
  orderRow : Nat → Int64
  above : Nat → Int64
  below : Nat → Int64
abbrev ax_aI (n : Nat) (f : Nat → Int32) : Option ax_C := some (.inl (0, n, .inl f))
abbrev ax_aJ (n : Nat) (f : Nat → Int64) : Option ax_C := some (.inl (1, n, .inr (.inl f)))
abbrev ax_aC (n : Nat) (f : Nat → Int32) : Option ax_C := some (.inl (2, n, .inl f))
abbrev ax_aO (n : Nat) (f : Nat → Option Nat) : Option ax_C := some (.inl (3, n, .inr (.inr (.inr (.inr f)))))
abbrev ax_aG (n : Nat) (f : Nat → Option Nat) : Option ax_C := some (.inl (4, n, .inr (.inr (.inr (.inr f)))))
abbrev ax_ob (ci : Nat) (fs : List Value) : Option ax_C := some (.inr (ci, fs))
def ax_hp (L : Nat) (xs : Nat → Int32) (c : ax_St) (m : ax_Mo) (o : Nat → Int64) (pool : List (Option ax_C)) : List (Option ax_C) :=
  some (.inl (9, L, .inl xs)) ::
  ax_ob 0 [.ref 2, .ref 4, .int (nI c.told), .ref 5, .ref 11, .ref 14, .ref 18, .ref 20] ::
  ax_ob 8 [.ref 3, .int (nI c.tl), .int (nI c.pl)] :: ax_aC 400 c.ch ::
  ax_aO 4 c.of ::
  ax_ob 1 [.ref 6, .ref 7, .ref 8, .ref 9, .ref 10, .int (nI c.bn)] :: ax_aI 60 c.kinds :: ax_aI 60 c.values :: ax_aI 60 c.layers :: ax_aI 60 c.xs :: ax_aI 60 c.ys ::
  ax_ob 7 [.ref 12, .ref 13, .int (nI c.rn)] :: ax_aI 60 c.rt :: ax_aI 60 c.re ::
  ax_ob 6 [.ref 15, .ref 16, .ref 17, .int (nI c.qn)] :: ax_aI 10 c.qm :: ax_aO 10 c.qo :: ax_aJ 10 c.qu ::
  ax_ob 5 [.ref 19, .int (nI c.on)] :: ax_aI 140 c.parts ::
  ax_ob 2 [.ref 21, .ref 22] :: ax_aI 128 c.ab :: ax_aI 128 c.be ::
  ax_ob 9 [.int m.thrown, .int (nI m.units), .ref 24, .int (nI m.makers), .ref 25, .ref 26, .int (nI m.things), .ref 27, .ref 28, .ref 29, .ref 30, .ref 31, .int (nI m.remarks), .ref 32, .ref 33, .int (nI m.quotes), .ref 34, .ref 35, .int (nI m.orders), .ref 36, .ref 37, .ref 38, .int (nI m.at_), .int m.wrong] ::
  ax_aI 400 m.text :: ax_aI 15 m.classes :: ax_aJ 960 m.numbers :: ax_aI 60 m.kinds :: ax_aJ 60 m.values :: ax_aI 60 m.layers :: ax_aJ 60 m.x :: ax_aJ 60 m.y ::
  ax_aI 60 m.remarkOf :: ax_aJ 60 m.excess :: ax_aI 10 m.quoteMaker :: ax_aJ 10 m.until_ :: ax_aJ 140 m.orderRow :: ax_aJ 128 m.above :: ax_aJ 128 m.below ::
  ax_aJ 1 o :: pool
end
section
/-! fewer things need be known of the locals -/
def ax_hk (k : Nat) : ax_L → Bool
  | [] => false
  | q :: l => q.1 == k || ax_hk k l
def ax_nd : ax_L → Bool
  | [] => true
  | q :: l => !ax_hk q.1 l && ax_nd l
def ax_lle (l1 l2 : ax_L) : Prop := ax_nd l1 = true ∧ ∀ k v, l1.lookup k = some v → l2.lookup k = some v
theorem ax_hk_none {k : Nat} {l : ax_L} (h : ax_hk k l = false) : l.lookup k = none := by
  induction l with
  | nil => rfl
  | cons q l ih =>
    simp only [ax_hk, Bool.or_eq_false_iff] at h
    have e : (k == q.1) = false := by
      have := h.1
      simp only [beq_eq_false_iff_ne] at this ⊢
      exact fun z => this z.symm
    rw [List.lookup_cons, e]
    exact ih h.2
theorem ax_hk_filter {k : Nat} {l : ax_L} {f : Nat × Value → Bool} (h : ax_hk k l = false) : ax_hk k (l.filter f) = false := by
  induction l with
  | nil => rfl
  | cons q l ih =>
    simp only [ax_hk, Bool.or_eq_false_iff] at h
    by_cases hf : f q = true
    · rw [List.filter_cons_of_pos hf]
      simp only [ax_hk, Bool.or_eq_false_iff]
      exact ⟨h.1, ih h.2⟩
    · rw [List.filter_cons_of_neg hf]
      exact ih h.2
theorem ax_nd_filter {l : ax_L} {f : Nat × Value → Bool} (h : ax_nd l = true) : ax_nd (l.filter f) = true := by
  induction l with
  | nil => rfl
  | cons q l ih =>
    simp only [ax_nd, Bool.and_eq_true, Bool.not_eq_true'] at h
    by_cases hf : f q = true
    · rw [List.filter_cons_of_pos hf]
      simp only [ax_nd, Bool.and_eq_true, Bool.not_eq_true']
      exact ⟨ax_hk_filter h.1, ih h.2⟩
    · rw [List.filter_cons_of_neg hf]
      exact ih h.2
theorem ax_hk_gone {k : Nat} {l : ax_L} {f : Nat × Value → Bool} (h : ∀ w, f (k, w) = false) : ax_hk k (l.filter f) = false := by
  induction l with
  | nil => rfl
  | cons q l ih =>
    by_cases hf : f q = true
    · rw [List.filter_cons_of_pos hf]
      simp only [ax_hk, Bool.or_eq_false_iff, beq_eq_false_iff_ne]
      refine ⟨fun z => ?_, ih⟩
      have := h q.2
      rw [← z] at this
      rw [this] at hf
      cases hf
    · rw [List.filter_cons_of_neg hf]
      exact ih
theorem ax_fl_in {l : ax_L} {f : Nat × Value → Bool} {k : Nat} {v : Value} (h : l.lookup k = some v) (hf : f (k, v) = true) : (l.filter f).lookup k = some v := by
  induction l with
  | nil => simp at h
  | cons q l ih =>
    obtain ⟨i, w⟩ := q
    by_cases hk : k = i
    · subst hk
      simp at h
      subst h
      rw [List.filter_cons_of_pos hf]
      simp
    · have e : (k == i) = false := by simpa using hk
      rw [List.lookup_cons, e] at h
      by_cases hg : f (i, w) = true
      · rw [List.filter_cons_of_pos hg, List.lookup_cons, e]
        exact ih h
      · rw [List.filter_cons_of_neg hg]
        exact ih h
theorem ax_fl_out {l : ax_L} {f : Nat × Value → Bool} {k : Nat} {v : Value} (hn : ax_nd l = true) (h : (l.filter f).lookup k = some v) : l.lookup k = some v ∧ f (k, v) = true := by
  induction l with
  | nil => simp at h
  | cons q l ih =>
    obtain ⟨i, w⟩ := q
    simp only [ax_nd, Bool.and_eq_true, Bool.not_eq_true'] at hn
    by_cases hk : k = i
    · subst hk
      by_cases hg : f (k, w) = true
      · rw [List.filter_cons_of_pos hg] at h
        simp at h
        subst h
        simp [hg]
      · rw [List.filter_cons_of_neg hg] at h
        rw [ax_hk_none (ax_hk_filter hn.1)] at h
        cases h
    · have e : (k == i) = false := by simpa using hk
      rw [List.lookup_cons, e]
      by_cases hg : f (i, w) = true
      · rw [List.filter_cons_of_pos hg, List.lookup_cons, e] at h
        exact ih hn.2 h
      · rw [List.filter_cons_of_neg hg] at h
        exact ih hn.2 h
theorem ax_lle_cons {l1 l2 : ax_L} {f : Nat × Value → Bool} {i : Nat} {v : Value} (h : ax_lle l1 l2) (hf : ∀ w, f (i, w) = false) : ax_lle ((i, v) :: l1.filter f) ((i, v) :: l2.filter f) := by
  refine ⟨?_, fun k w hw => ?_⟩
  · simp only [ax_nd, Bool.and_eq_true, Bool.not_eq_true']
    exact ⟨ax_hk_gone hf, ax_nd_filter h.1⟩
  · rw [List.lookup_cons] at hw ⊢
    by_cases hk : (k == i) = true
    · rw [hk] at hw ⊢
      exact hw
    · have hk' : (k == i) = false := by simpa using hk
      rw [hk'] at hw ⊢
      obtain ⟨q1, q2⟩ := ax_fl_out h.1 hw
      exact ax_fl_in (h.2 k w q1) q2
theorem ax_lle_sto1 {l1 l2 : ax_L} {i : Nat} {v : Value} (h : ax_lle l1 l2) : ax_lle (ax_sto1 i v l1) (ax_sto1 i v l2) := ax_lle_cons h (fun w => by simp)
theorem ax_lle_sto2 {l1 l2 : ax_L} {i : Nat} {v : Value} (h : ax_lle l1 l2) : ax_lle (ax_sto2 i v l1) (ax_sto2 i v l2) := ax_lle_cons h (fun w => by simp)
theorem ax_s_lv {i : Instr} {nx tg : Nat} {l1 l2 : ax_L} {st : List Value} {h : ax_H} {s' : ax_S} (hl : ax_lle l1 l2) (hs : ax_s i nx tg l1 st h = some s') : ∃ l2', ax_s i nx tg l2 st h = some (s'.1, l2', s'.2.2.1, s'.2.2.2) ∧ ax_lle s'.2.1 l2' := by
  have ld : ∀ (ok : Value → Bool) (k : Nat), ax_load ok k nx l1 st h = some s' → ∃ l2', ax_load ok k nx l2 st h = some (s'.1, l2', s'.2.2.1, s'.2.2.2) ∧ ax_lle s'.2.1 l2' := by
    intro ok k hs
    unfold ax_load at hs ⊢
    cases hk : l1.lookup k with
    | none => rw [hk] at hs; cases hs
    | some v =>
      rw [hk] at hs
      rw [hl.2 k v hk]
      simp only at hs ⊢
      by_cases ho : ok v = true
      · rw [if_pos ho] at hs ⊢
        cases hs
        exact ⟨l2, rfl, hl⟩
      · rw [if_neg ho] at hs
        cases hs
  have s1 : ∀ (ok : Value → Bool) (k : Nat), ax_store1 ok k nx l1 st h = some s' → ∃ l2', ax_store1 ok k nx l2 st h = some (s'.1, l2', s'.2.2.1, s'.2.2.2) ∧ ax_lle s'.2.1 l2' := by
    intro ok k hs
    unfold ax_store1 at hs ⊢
    cases st with
    | nil => cases hs
    | cons v st =>
      simp only at hs ⊢
      by_cases ho : ok v = true
      · rw [if_pos ho] at hs ⊢
        cases hs
        exact ⟨_, rfl, ax_lle_sto1 hl⟩
      · rw [if_neg ho] at hs
        cases hs
  have s2 : ∀ (k : Nat), ax_store2 k nx l1 st h = some s' → ∃ l2', ax_store2 k nx l2 st h = some (s'.1, l2', s'.2.2.1, s'.2.2.2) ∧ ax_lle s'.2.1 l2' := by
    intro k hs
    unfold ax_store2 at hs ⊢
    split at hs
    · cases hs
      exact ⟨_, rfl, ax_lle_sto2 hl⟩
    · cases hs
  have ic : ∀ (k : Nat) (n : Int), ax_iinc k n nx l1 st h = some s' → ∃ l2', ax_iinc k n nx l2 st h = some (s'.1, l2', s'.2.2.1, s'.2.2.2) ∧ ax_lle s'.2.1 l2' := by
    intro k n hs
    unfold ax_iinc at hs ⊢
    split at hs
    · rename_i x hx
      rw [hl.2 _ _ hx]
      cases hs
      exact ⟨_, rfl, ax_lle_sto1 hl⟩
    · cases hs
  cases i with
  | iload k => exact ld _ _ hs
  | iload_n k => exact ld _ _ hs
  | lload k => exact ld _ _ hs
  | lload_n k => exact ld _ _ hs
  | aload k => exact ld _ _ hs
  | aload_n k => exact ld _ _ hs
  | istore k => exact s1 _ _ hs
  | istore_n k => exact s1 _ _ hs
  | astore k => exact s1 _ _ hs
  | astore_n k => exact s1 _ _ hs
  | lstore k => exact s2 _ hs
  | lstore_n k => exact s2 _ hs
  | iinc k n => exact ic _ _ hs
  | _ =>
    simp only [ax_s, ax_ii, ax_ll, ax_lshl, ax_i1, ax_l1, ax_dup] at hs ⊢
    first
    | (cases hs; done)
    | (cases hs; exact ⟨_, rfl, hl⟩)
    | (split at hs <;> first | (cases hs; exact ⟨_, rfl, hl⟩) | (split at hs <;> first | (cases hs; rename_i hc; exact ⟨_, if_pos hc, hl⟩) | cases hs) | cases hs)
section AxLv
variable {C : Nat → List Value → ax_H → ax_R → Prop} {M : ax_M} {r : ax_R} {K K' : Nat → ax_L → List Value → ax_H → Prop} {lv lv2 : ax_L}
theorem ax_call_lv (hK : ∀ pc st h, K pc lv st h → K' pc lv2 st h) {ix pc nx : Nat} {st : List Value} {h : ax_H} (hb : ax_call C M ix pc nx lv st h r K) : ax_call C M ix pc nx lv2 st h r K' := by
  obtain ⟨mi, n, h1, h2, h3, h4⟩ := hb
  refine ⟨mi, n, h1, h2, h3, ?_⟩
  rcases h4 with ⟨v, g, c, k⟩ | ⟨E, g, c, hE, k⟩
  · exact Or.inl ⟨v, g, c, hK _ _ _ k⟩
  · refine Or.inr ⟨E, g, c, hE, ?_⟩
    rcases k with ⟨t, k1, k2⟩ | k
    · exact Or.inl ⟨t, k1, hK _ _ _ k2⟩
    · exact Or.inr k
theorem ax_b_lv (hK : ∀ pc st h, K pc lv st h → K' pc lv2 st h) {i : Instr} {pc nx tg : Nat} {st : List Value} {h : ax_H} (hb : ax_b C M i pc nx tg lv st h r K) : ax_b C M i pc nx tg lv2 st h r K' := by
  cases i with
  | ldc ix => obtain ⟨v, a, k⟩ := hb; exact ⟨v, a, hK _ _ _ k⟩
  | ldc2_w ix => obtain ⟨v, a, k⟩ := hb; exact ⟨v, a, hK _ _ _ k⟩
  | idiv => obtain ⟨x, y, s, a, b, k⟩ := hb; exact ⟨x, y, s, a, b, hK _ _ _ k⟩
  | ldiv => obtain ⟨x, y, s, a, b, k⟩ := hb; exact ⟨x, y, s, a, b, hK _ _ _ k⟩
  | lrem => obtain ⟨x, y, s, a, b, k⟩ := hb; exact ⟨x, y, s, a, b, hK _ _ _ k⟩
  | if_icmp c o => obtain ⟨x, y, s, a, k1, k2⟩ := hb; exact ⟨x, y, s, a, fun q => hK _ _ _ (k1 q), fun q => hK _ _ _ (k2 q)⟩
  | ifCond c o => obtain ⟨x, s, a, k1, k2⟩ := hb; exact ⟨x, s, a, fun q => hK _ _ _ (k1 q), fun q => hK _ _ _ (k2 q)⟩
  | ifnull o => obtain ⟨v, s, a, k⟩ := hb; exact ⟨v, s, a, k.imp (fun q => ⟨q.1, hK _ _ _ q.2⟩) (fun q => ⟨q.1, hK _ _ _ q.2⟩)⟩
  | ifnonnull o => obtain ⟨v, s, a, k⟩ := hb; exact ⟨v, s, a, k.imp (fun q => ⟨q.1, hK _ _ _ q.2⟩) (fun q => ⟨q.1, hK _ _ _ q.2⟩)⟩
  | tableswitch d lo hi offs => obtain ⟨x, s, t, a, b, k⟩ := hb; exact ⟨x, s, t, a, b, hK _ _ _ k⟩
  | lookupswitch d ps => obtain ⟨x, s, a, k⟩ := hb; exact ⟨x, s, a, hK _ _ _ k⟩
  | getfield ix => obtain ⟨a, s, ci, k, fs, v, a1, a2, a3, a4, q⟩ := hb; exact ⟨a, s, ci, k, fs, v, a1, a2, a3, a4, hK _ _ _ q⟩
  | putfield ix => obtain ⟨a, v, s, ci, k, fs, a1, a2, a3, a4, a5, a6, a7, q⟩ := hb; exact ⟨a, v, s, ci, k, fs, a1, a2, a3, a4, a5, a6, a7, hK _ _ _ q⟩
  | iaload => obtain ⟨a, j, s, k, n, f, a1, a2, a3, a4, q⟩ := hb; exact ⟨a, j, s, k, n, f, a1, a2, a3, a4, hK _ _ _ q⟩
  | caload => obtain ⟨a, j, s, n, f, a1, a2, a3, q⟩ := hb; exact ⟨a, j, s, n, f, a1, a2, a3, hK _ _ _ q⟩
  | laload => obtain ⟨a, j, s, n, f, a1, a2, a3, q⟩ := hb; exact ⟨a, j, s, n, f, a1, a2, a3, hK _ _ _ q⟩
  | aaload => obtain ⟨a, j, s, k, n, f, a1, a2, a3, a4, q⟩ := hb; exact ⟨a, j, s, k, n, f, a1, a2, a3, a4, hK _ _ _ q⟩
  | iastore => obtain ⟨a, j, x, s, n, f, a1, a2, a3, q⟩ := hb; exact ⟨a, j, x, s, n, f, a1, a2, a3, hK _ _ _ q⟩
  | castore => obtain ⟨a, j, x, s, n, f, a1, a2, a3, q⟩ := hb; exact ⟨a, j, x, s, n, f, a1, a2, a3, hK _ _ _ q⟩
  | lastore => obtain ⟨a, j, x, s, n, f, a1, a2, a3, q⟩ := hb; exact ⟨a, j, x, s, n, f, a1, a2, a3, hK _ _ _ q⟩
  | aastore => obtain ⟨a, j, o, s, k, n, f, a1, a2, a3, a4, a5, q⟩ := hb; exact ⟨a, j, o, s, k, n, f, a1, a2, a3, a4, a5, hK _ _ _ q⟩
  | arraylength => obtain ⟨a, s, k, n, z, a1, a2, a3, q⟩ := hb; exact ⟨a, s, k, n, z, a1, a2, a3, hK _ _ _ q⟩
  | newarray t => obtain ⟨n, s, k, a1, a2, a3, a4, q⟩ := hb; exact ⟨n, s, k, a1, a2, a3, a4, hK _ _ _ q⟩
  | anewarray ix => obtain ⟨n, s, k, a1, a2, a3, a4, q⟩ := hb; exact ⟨n, s, k, a1, a2, a3, a4, hK _ _ _ q⟩
  | new ix =>
    rcases hb with ⟨ci, a, q⟩ | hb
    · exact Or.inl ⟨ci, a, hK _ _ _ q⟩
    · exact Or.inr hb
  | invokestatic ix => exact ax_call_lv hK hb
  | invokevirtual ix => exact ⟨hb.1, ax_call_lv hK hb.2⟩
  | invokespecial ix =>
    rcases hb with ⟨a1, a, s, a2, a3, q⟩ | hb
    · exact Or.inl ⟨a1, a, s, a2, a3, hK _ _ _ q⟩
    · exact Or.inr ⟨hb.1, ax_call_lv hK hb.2⟩
  | ireturn => exact hb
  | lreturn => exact hb
  | areturn => exact hb
  | return_ => exact hb
  | _ => exact hb
theorem ax_go_lv {pc : Nat} {l1 l2 : ax_L} {st : List Value} {h : ax_H} (hl : ax_lle l1 l2) (hg : ax_go C M r pc l1 st h) : ax_go C M r pc l2 st h := by
  have := hg (fun pc lv st h => ∀ l2, ax_lle lv l2 → ax_go C M r pc l2 st h) ?_
  · exact this l2 hl
  · intro pc lv st h ⟨i, nx, tg, hd, q⟩ l2 hl
    rcases q with ⟨s', hs, k⟩ | hb
    · obtain ⟨l2', e1, e2⟩ := ax_s_lv hl hs
      exact ax_go_st ⟨i, nx, tg, hd, Or.inl ⟨_, e1, k l2' e2⟩⟩
    · exact ax_go_st ⟨i, nx, tg, hd, Or.inr (ax_b_lv (lv := lv) (lv2 := l2) (fun pc st h kk => kk l2 hl) hb)⟩
end AxLv

/-! the rows, with what is to hold at the end -/
def ax_wp (C : Nat → List Value → ax_H → ax_R → Prop) (M : ax_M) (Q : ax_R → Prop) (pc : Nat) (lv : ax_L) (st : List Value) (h : ax_H) : Prop := ∃ r, ax_go C M r pc lv st h ∧ Q r
/-- a method's run, with what holds at its end -/
def ax_T (mi : Nat) (as : List Value) (h : ax_H) (Q : ax_R → Prop) : Prop := ∃ r, ax_run mi as h r ∧ Q r
theorem ax_T_of {mi : Nat} {as : List Value} {h : ax_H} {Q : ax_R → Prop} (M : ax_M) (hM : ax_pr[mi]? = some M) (hw : ax_wsum as ≤ ax_nl mi) (hg : ax_wp ax_run M Q 0 (lv_args 0 as) [] h) : ax_T mi as h Q := by
  obtain ⟨r, h1, h2⟩ := hg
  exact ⟨r, ax_run_of M hM hw h1, h2⟩
theorem ax_T_mono {mi : Nat} {as : List Value} {h : ax_H} {Q Q' : ax_R → Prop} (hq : ax_T mi as h Q) (hQ : ∀ r, Q r → Q' r) : ax_T mi as h Q' := by
  obtain ⟨r, h1, h2⟩ := hq
  exact ⟨r, h1, hQ r h2⟩
def ax_sub : ax_L → ax_L → Prop
  | [], _ => True
  | q :: l, lv => lv.lookup q.1 = some q.2 ∧ ax_sub l lv
theorem ax_sub_lk {l lv : ax_L} (h : ax_sub l lv) : ∀ k v, l.lookup k = some v → lv.lookup k = some v := by
  induction l with
  | nil => intro k v hk; simp at hk
  | cons q l ih =>
    intro k v hk
    rw [List.lookup_cons] at hk
    by_cases hq : (k == q.1) = true
    · rw [hq] at hk
      have : k = q.1 := by simpa using hq
      subst this
      have hv : q.2 = v := Option.some.inj hk
      rw [← hv]
      exact h.1
    · have hq' : (k == q.1) = false := by simpa using hq
      rw [hq'] at hk
      exact ih h.2 k v hk
section AxWp
variable {C : Nat → List Value → ax_H → ax_R → Prop} {M : ax_M} {Q : ax_R → Prop} {pc nx tg : Nat} {lv lv' : ax_L} {st st' : List Value} {h h' : ax_H}
theorem w_lv {l1 : ax_L} (k : ax_wp C M Q pc l1 st h) (hn : ax_nd l1 = true) (hs : ax_sub l1 lv) : ax_wp C M Q pc lv st h := by
  obtain ⟨r, h1, h2⟩ := k
  exact ⟨r, ax_go_lv ⟨hn, ax_sub_lk hs⟩ h1, h2⟩
theorem w_s {i : Instr} {pc' : Nat} (hd : M.2.2.1.lookup pc = some (i, nx, tg)) (hs : ax_s i nx tg lv st h = some (pc', lv', st', h')) (k : ax_wp C M Q pc' lv' st' h') : ax_wp C M Q pc lv st h := by
  obtain ⟨r, h1, h2⟩ := k
  exact ⟨r, gs hd hs h1, h2⟩
theorem w_ldc {ix : Nat} {v : Int32} (hd : M.2.2.1.lookup pc = some (.ldc ix, nx, tg)) (hv : ax_tI.lookup (ax_key M ix) = some v) (k : ax_wp C M Q nx lv (.int v :: st) h) : ax_wp C M Q pc lv st h := by
  obtain ⟨r, h1, h2⟩ := k
  exact ⟨r, g_ldc hd hv h1, h2⟩
theorem w_ldc2 {ix : Nat} {v : Int64} (hd : M.2.2.1.lookup pc = some (.ldc2_w ix, nx, tg)) (hv : ax_tL.lookup (ax_key M ix) = some v) (k : ax_wp C M Q nx lv (.long v :: st) h) : ax_wp C M Q pc lv st h := by
  obtain ⟨r, h1, h2⟩ := k
  exact ⟨r, g_ldc2 hd hv h1, h2⟩
theorem w_idiv {x y : Int32} (hd : M.2.2.1.lookup pc = some (.idiv, nx, tg)) (hy : ¬ y = 0) (k : ax_wp C M Q nx lv (.int (x / y) :: st) h) : ax_wp C M Q pc lv (.int y :: .int x :: st) h := by
  obtain ⟨r, h1, h2⟩ := k
  exact ⟨r, g_idiv hd hy h1, h2⟩
theorem w_ldiv {x y : Int64} (hd : M.2.2.1.lookup pc = some (.ldiv, nx, tg)) (hy : ¬ y = 0) (k : ax_wp C M Q nx lv (.long (x / y) :: st) h) : ax_wp C M Q pc lv (.long y :: .long x :: st) h := by
  obtain ⟨r, h1, h2⟩ := k
  exact ⟨r, g_ldiv hd hy h1, h2⟩
theorem w_lrem {x y : Int64} (hd : M.2.2.1.lookup pc = some (.lrem, nx, tg)) (hy : ¬ y = 0) (k : ax_wp C M Q nx lv (.long (x - x / y * y) :: st) h) : ax_wp C M Q pc lv (.long y :: .long x :: st) h := by
  obtain ⟨r, h1, h2⟩ := k
  exact ⟨r, g_lrem hd hy h1, h2⟩
theorem w_if2 {c : ClassFile.Cond} {o : Int} {x y : Int32} (hd : M.2.2.1.lookup pc = some (.if_icmp c o, nx, tg)) (k1 : ax_cnd c x y → ax_wp C M Q tg lv st h) (k2 : ¬ ax_cnd c x y → ax_wp C M Q nx lv st h) : ax_wp C M Q pc lv (.int y :: .int x :: st) h := by
  by_cases hc : ax_cnd c x y
  · obtain ⟨r, h1, h2⟩ := k1 hc
    exact ⟨r, g_if2 hd (fun _ => h1) (fun z => absurd hc z), h2⟩
  · obtain ⟨r, h1, h2⟩ := k2 hc
    exact ⟨r, g_if2 hd (fun z => absurd z hc) (fun _ => h1), h2⟩
theorem w_if1 {c : ClassFile.Cond} {o : Int} {x : Int32} (hd : M.2.2.1.lookup pc = some (.ifCond c o, nx, tg)) (k1 : ax_cnd c x 0 → ax_wp C M Q tg lv st h) (k2 : ¬ ax_cnd c x 0 → ax_wp C M Q nx lv st h) : ax_wp C M Q pc lv (.int x :: st) h := by
  by_cases hc : ax_cnd c x 0
  · obtain ⟨r, h1, h2⟩ := k1 hc
    exact ⟨r, g_if1 hd (fun _ => h1) (fun z => absurd hc z), h2⟩
  · obtain ⟨r, h1, h2⟩ := k2 hc
    exact ⟨r, g_if1 hd (fun z => absurd z hc) (fun _ => h1), h2⟩
theorem w_nul {o : Int} (hd : M.2.2.1.lookup pc = some (.ifnull o, nx, tg)) (k : ax_wp C M Q tg lv st h) : ax_wp C M Q pc lv (.null :: st) h := by
  obtain ⟨r, h1, h2⟩ := k
  exact ⟨r, g_nul hd h1, h2⟩
theorem w_nulR {o : Int} {a : Nat} (hd : M.2.2.1.lookup pc = some (.ifnull o, nx, tg)) (k : ax_wp C M Q nx lv st h) : ax_wp C M Q pc lv (.ref a :: st) h := by
  obtain ⟨r, h1, h2⟩ := k
  exact ⟨r, g_nulR hd h1, h2⟩
theorem w_nnl {o : Int} (hd : M.2.2.1.lookup pc = some (.ifnonnull o, nx, tg)) (k : ax_wp C M Q nx lv st h) : ax_wp C M Q pc lv (.null :: st) h := by
  obtain ⟨r, h1, h2⟩ := k
  exact ⟨r, g_nnl hd h1, h2⟩
theorem w_nnlR {o : Int} {a : Nat} (hd : M.2.2.1.lookup pc = some (.ifnonnull o, nx, tg)) (k : ax_wp C M Q tg lv st h) : ax_wp C M Q pc lv (.ref a :: st) h := by
  obtain ⟨r, h1, h2⟩ := k
  exact ⟨r, g_nnlR hd h1, h2⟩
theorem w_tsw {d lo hi : Int} {offs : Array Int} {x : Int32} {t : Nat} (hd : M.2.2.1.lookup pc = some (.tableswitch d lo hi offs, nx, tg)) (ht : ax_tsw pc d lo hi offs x = some t) (k : ax_wp C M Q t lv st h) : ax_wp C M Q pc lv (.int x :: st) h := by
  obtain ⟨r, h1, h2⟩ := k
  exact ⟨r, g_tsw hd ht h1, h2⟩
theorem w_lsw {d : Int} {ps : Array (Int × Int)} {x : Int32} {t : Nat} (hd : M.2.2.1.lookup pc = some (.lookupswitch d ps, nx, tg)) (ht : ax_to pc (Op.lookupswitch.offset ps.toList d x.toInt) = t) (k : ax_wp C M Q t lv st h) : ax_wp C M Q pc lv (.int x :: st) h := by
  obtain ⟨r, h1, h2⟩ := k
  exact ⟨r, g_lsw hd ht h1, h2⟩
theorem w_get {ix a ci j : Nat} {fs : List Value} {v : Value} (hd : M.2.2.1.lookup pc = some (.getfield ix, nx, tg)) (hf : ax_tF.lookup (ax_key M ix) = some (ci, j)) (hc : h.1[a]? = some (some (.inr (ci, fs)))) (hv : fs[j]? = some v) (k : ax_wp C M Q nx lv (v :: st) h) : ax_wp C M Q pc lv (.ref a :: st) h := by
  obtain ⟨r, h1, h2⟩ := k
  exact ⟨r, g_get hd hf hc hv h1, h2⟩
theorem w_put {H : List (Option ax_C)} {u : Nat} {ix a ci j : Nat} {fs : List Value} {v : Value} (hd : M.2.2.1.lookup pc = some (.putfield ix, nx, tg)) (hf : ax_tF.lookup (ax_key M ix) = some (ci, j)) (hc : H[a]? = some (some (.inr (ci, fs)))) (hl : j < fs.length) (hw : ax_fin ci j = false ∨ (M.2.2.2.2 = true ∧ M.1 = ci)) (hn : narrow (ax_ty ci j) v = v) (ht : fits (ax_ty ci j) v = true)
    (k : ax_wp C M Q nx lv st (H.set a (some (.inr (ci, fs.set j v))), u)) : ax_wp C M Q pc lv (v :: .ref a :: st) (H, u) := by
  obtain ⟨r, h1, h2⟩ := k
  exact ⟨r, g_put hd hf hc hl hw hn ht h1, h2⟩
theorem w_iald {a n : Nat} {i : Int32} {f : Nat → Int32} (hd : M.2.2.1.lookup pc = some (.iaload, nx, tg)) (hc : h.1[a]? = some (some (.inl (0, n, .inl f)))) (hi : vp_in i n) (k : ax_wp C M Q nx lv (.int (f i.toNatClampNeg) :: st) h) : ax_wp C M Q pc lv (.int i :: .ref a :: st) h := by
  obtain ⟨r, h1, h2⟩ := k
  exact ⟨r, g_iald hd hc hi h1, h2⟩
theorem w_sald {a n : Nat} {i : Int32} {f : Nat → Int32} (hd : M.2.2.1.lookup pc = some (.iaload, nx, tg)) (hc : h.1[a]? = some (some (.inl (9, n, .inl f)))) (hi : vp_in i n) (k : ax_wp C M Q nx lv (.int (f i.toNatClampNeg) :: st) h) : ax_wp C M Q pc lv (.int i :: .ref a :: st) h := by
  obtain ⟨r, h1, h2⟩ := k
  exact ⟨r, g_sald hd hc hi h1, h2⟩
theorem w_cald {a n : Nat} {i : Int32} {f : Nat → Int32} (hd : M.2.2.1.lookup pc = some (.caload, nx, tg)) (hc : h.1[a]? = some (some (.inl (2, n, .inl f)))) (hi : vp_in i n) (k : ax_wp C M Q nx lv (.int (f i.toNatClampNeg) :: st) h) : ax_wp C M Q pc lv (.int i :: .ref a :: st) h := by
  obtain ⟨r, h1, h2⟩ := k
  exact ⟨r, g_cald hd hc hi h1, h2⟩
theorem w_lald {a n : Nat} {i : Int32} {f : Nat → Int64} (hd : M.2.2.1.lookup pc = some (.laload, nx, tg)) (hc : h.1[a]? = some (some (.inl (1, n, .inr (.inl f))))) (hi : vp_in i n) (k : ax_wp C M Q nx lv (.long (f i.toNatClampNeg) :: st) h) : ax_wp C M Q pc lv (.int i :: .ref a :: st) h := by
  obtain ⟨r, h1, h2⟩ := k
  exact ⟨r, g_lald hd hc hi h1, h2⟩
theorem w_aald {a n q : Nat} {i : Int32} {f : Nat → Option Nat} (hd : M.2.2.1.lookup pc = some (.aaload, nx, tg)) (hc : h.1[a]? = some (some (.inl (q, n, .inr (.inr (.inr (.inr f))))))) (hq : q = 3 ∨ q = 4) (hi : vp_in i n) (k : ax_wp C M Q nx lv (va_rf (f i.toNatClampNeg) :: st) h) : ax_wp C M Q pc lv (.int i :: .ref a :: st) h := by
  obtain ⟨r, h1, h2⟩ := k
  exact ⟨r, g_aald hd hc hq hi h1, h2⟩
theorem w_iast {H : List (Option ax_C)} {u : Nat} {a n : Nat} {i x : Int32} {f : Nat → Int32} (hd : M.2.2.1.lookup pc = some (.iastore, nx, tg)) (hc : H[a]? = some (some (.inl (0, n, .inl f)))) (hi : vp_in i n) (k : ax_wp C M Q nx lv st (H.set a (some (.inl (0, n, .inl (upd f i.toNatClampNeg x)))), u)) : ax_wp C M Q pc lv (.int x :: .int i :: .ref a :: st) (H, u) := by
  obtain ⟨r, h1, h2⟩ := k
  exact ⟨r, g_iast hd hc hi h1, h2⟩
theorem w_cast {H : List (Option ax_C)} {u : Nat} {a n : Nat} {i x : Int32} {f : Nat → Int32} (hd : M.2.2.1.lookup pc = some (.castore, nx, tg)) (hc : H[a]? = some (some (.inl (2, n, .inl f)))) (hi : vp_in i n) (k : ax_wp C M Q nx lv st (H.set a (some (.inl (2, n, .inl (upd f i.toNatClampNeg (vp_nar .char x))))), u)) : ax_wp C M Q pc lv (.int x :: .int i :: .ref a :: st) (H, u) := by
  obtain ⟨r, h1, h2⟩ := k
  exact ⟨r, g_cast hd hc hi h1, h2⟩
theorem w_last {H : List (Option ax_C)} {u : Nat} {a n : Nat} {i : Int32} {x : Int64} {f : Nat → Int64} (hd : M.2.2.1.lookup pc = some (.lastore, nx, tg)) (hc : H[a]? = some (some (.inl (1, n, .inr (.inl f))))) (hi : vp_in i n) (k : ax_wp C M Q nx lv st (H.set a (some (.inl (1, n, .inr (.inl (vp_updL f i.toNatClampNeg x))))), u)) : ax_wp C M Q pc lv (.long x :: .int i :: .ref a :: st) (H, u) := by
  obtain ⟨r, h1, h2⟩ := k
  exact ⟨r, g_last hd hc hi h1, h2⟩
theorem w_aast {H : List (Option ax_C)} {u : Nat} {a n q v : Nat} {i : Int32} {f : Nat → Option Nat} {fs : List Value} (hd : M.2.2.1.lookup pc = some (.aastore, nx, tg)) (hc : H[a]? = some (some (.inl (q, n, .inr (.inr (.inr (.inr f))))))) (hq : q = 3 ∨ q = 4) (hi : vp_in i n) (hv : H[v]? = some (some (.inr (ax_cmp q, fs))))
    (k : ax_wp C M Q nx lv st (H.set a (some (.inl (q, n, .inr (.inr (.inr (.inr (va_up f i.toNatClampNeg (some v)))))))), u)) : ax_wp C M Q pc lv (.ref v :: .int i :: .ref a :: st) (H, u) := by
  obtain ⟨r, h1, h2⟩ := k
  exact ⟨r, g_aast hd hc hq hi hv h1, h2⟩
theorem w_aastN {H : List (Option ax_C)} {u : Nat} {a n q : Nat} {i : Int32} {f : Nat → Option Nat} (hd : M.2.2.1.lookup pc = some (.aastore, nx, tg)) (hc : H[a]? = some (some (.inl (q, n, .inr (.inr (.inr (.inr f))))))) (hq : q = 3 ∨ q = 4) (hi : vp_in i n)
    (k : ax_wp C M Q nx lv st (H.set a (some (.inl (q, n, .inr (.inr (.inr (.inr (va_up f i.toNatClampNeg none))))))), u)) : ax_wp C M Q pc lv (.null :: .int i :: .ref a :: st) (H, u) := by
  obtain ⟨r, h1, h2⟩ := k
  exact ⟨r, g_aastN hd hc hq hi h1, h2⟩
theorem w_alen {a q n : Nat} {z : (Nat → Int32) ⊕ (Nat → Int64) ⊕ (Nat → UInt32) ⊕ (Nat → UInt64) ⊕ (Nat → Option Nat)} (hd : M.2.2.1.lookup pc = some (.arraylength, nx, tg)) (hc : h.1[a]? = some (some (.inl (q, n, z)))) (hq : q < 5 ∨ (q = 9 ∧ a = 0)) (k : ax_wp C M Q nx lv (.int (nI n) :: st) h) : ax_wp C M Q pc lv (.ref a :: st) h := by
  obtain ⟨r, h1, h2⟩ := k
  exact ⟨r, g_alen hd hc hq h1, h2⟩
theorem w_newa {H : List (Option ax_C)} {u : Nat} {t : ArrayType} {n : Int32} {q : Nat} (hd : M.2.2.1.lookup pc = some (.newarray t, nx, tg)) (ht : ax_ak t = some q) (hn : ¬ n < 0) (hm : n.toNatClampNeg ≤ 1000000) (k : ax_wp C M Q nx lv (.ref H.length :: st) (H ++ [some (.inl (q, n.toNatClampNeg, ax_blank q))], u + n.toNatClampNeg)) : ax_wp C M Q pc lv (.int n :: st) (H, u) := by
  obtain ⟨r, h1, h2⟩ := k
  exact ⟨r, g_newa hd ht hn hm h1, h2⟩
theorem w_newq {H : List (Option ax_C)} {u : Nat} {ix : Nat} {n : Int32} {q : Nat} (hd : M.2.2.1.lookup pc = some (.anewarray ix, nx, tg)) (ht : ax_tR.lookup (ax_key M ix) = some q) (hn : ¬ n < 0) (hm : n.toNatClampNeg ≤ 1000000) (k : ax_wp C M Q nx lv (.ref H.length :: st) (H ++ [some (.inl (q, n.toNatClampNeg, ax_blank q))], u + n.toNatClampNeg)) : ax_wp C M Q pc lv (.int n :: st) (H, u) := by
  obtain ⟨r, h1, h2⟩ := k
  exact ⟨r, g_newq hd ht hn hm h1, h2⟩
theorem w_new {H : List (Option ax_C)} {u : Nat} {ix ci : Nat} (hd : M.2.2.1.lookup pc = some (.new ix, nx, tg)) (hn : ax_tN.lookup (ax_key M ix) = some ci) (k : ax_wp C M Q nx lv (.ref H.length :: st) (H ++ [some (.inr (ci, ax_dfl ci))], u + (ax_dfl ci).length)) : ax_wp C M Q pc lv st (H, u) := by
  obtain ⟨r, h1, h2⟩ := k
  exact ⟨r, g_new hd hn h1, h2⟩
theorem w_thr {H : List (Option ax_C)} {u : Nat} {ix E ik is : Nat} (hd : M.2.2.1.lookup pc = some (.new ix, nx, tg)) (hx : ax_tX.lookup (ax_key M ix) = some (E, ik)) (hh : M.2.2.2.1 = []) (h1 : M.2.2.1.lookup nx = some (.dup, nx + 1, 0)) (h2 : M.2.2.1.lookup (nx + 1) = some (.ldc is, nx + 3, 0)) (h3 : ax_key M is ∈ ax_tS) (h4 : M.2.2.1.lookup (nx + 3) = some (.invokespecial ik, nx + 6, 0)) (h5 : M.2.2.1.lookup (nx + 6) = some (.athrow, nx + 7, 0)) (hr : Q (.inr E, (H ++ [none], u + 6))) : ax_wp C M Q pc lv [] (H, u) := ⟨_, g_thr hd hx hh h1 h2 h3 h4 h5 rfl, hr⟩
theorem w_cs {ix mi n : Nat} {v : Option Value} {h1 : ax_H} (hd : M.2.2.1.lookup pc = some (.invokestatic ix, nx, tg)) (hm : ax_tM.lookup (ax_key M ix) = some (mi, n)) (hn : n ≤ st.length) (hw : ax_wsum (st.drop n) ≤ 8) (hc : C mi (st.take n).reverse h (.inl v, h1)) (k : ax_wp C M Q nx lv (v.toList ++ st.drop n) h1) : ax_wp C M Q pc lv st h := by
  obtain ⟨r, g1, g2⟩ := k
  exact ⟨r, g_cs hd hm hc hn hw g1, g2⟩
theorem w_cv {ix mi n a : Nat} {as fs : List Value} {v : Option Value} {h1 : ax_H} (hd : M.2.2.1.lookup pc = some (.invokevirtual ix, nx, tg)) (hm : ax_tM.lookup (ax_key M ix) = some (mi, n)) (ha : (st.take n).reverse = .ref a :: as) (ho : h.1[a]? = some (some (.inr (ax_rc mi, fs)))) (hn : n ≤ st.length) (hw : ax_wsum (st.drop n) ≤ 8) (hc : C mi (st.take n).reverse h (.inl v, h1)) (k : ax_wp C M Q nx lv (v.toList ++ st.drop n) h1) : ax_wp C M Q pc lv st h := by
  obtain ⟨r, g1, g2⟩ := k
  exact ⟨r, g_cv hd hm ha ho hc hn hw g1, g2⟩
theorem w_ci {ix mi n a : Nat} {as : List Value} {v : Option Value} {h1 : ax_H} (hd : M.2.2.1.lookup pc = some (.invokespecial ix, nx, tg)) (hm : ax_tM.lookup (ax_key M ix) = some (mi, n)) (ha : (st.take n).reverse = .ref a :: as) (hn : n ≤ st.length) (hw : ax_wsum (st.drop n) ≤ 8) (hc : C mi (st.take n).reverse h (.inl v, h1)) (k : ax_wp C M Q nx lv (v.toList ++ st.drop n) h1) : ax_wp C M Q pc lv st h := by
  obtain ⟨r, g1, g2⟩ := k
  exact ⟨r, g_ci hd hm ha hc hn hw g1, g2⟩
theorem w_oi {ix a : Nat} (hd : M.2.2.1.lookup pc = some (.invokespecial ix, nx, tg)) (ho : ax_key M ix ∈ ax_tO) (hw : ax_wsum st ≤ 8) (k : ax_wp C M Q nx lv st h) : ax_wp C M Q pc lv (.ref a :: st) h := by
  obtain ⟨r, g1, g2⟩ := k
  exact ⟨r, g_oi hd ho hw g1, g2⟩
theorem w_cvx {ix mi n E a : Nat} {as fs : List Value} {h1 : ax_H} (hd : M.2.2.1.lookup pc = some (.invokevirtual ix, nx, tg)) (hm : ax_tM.lookup (ax_key M ix) = some (mi, n)) (ha : (st.take n).reverse = .ref a :: as) (ho : h.1[a]? = some (some (.inr (ax_rc mi, fs)))) (hn : n ≤ st.length) (hw : ax_wsum (st.drop n) ≤ 8) (hE : E < 2) (hh : ax_hand M.1 M.2.2.2.1 pc E = none) (hc : C mi (st.take n).reverse h (.inr E, h1)) (hr : Q (.inr E, h1)) : ax_wp C M Q pc lv st h := ⟨_, g_cvx hd hm ha ho hc hn hw hE hh rfl, hr⟩
theorem w_csx {ix mi n E : Nat} {h1 : ax_H} (hd : M.2.2.1.lookup pc = some (.invokestatic ix, nx, tg)) (hm : ax_tM.lookup (ax_key M ix) = some (mi, n)) (hn : n ≤ st.length) (hw : ax_wsum (st.drop n) ≤ 8) (hE : E < 2) (hh : ax_hand M.1 M.2.2.2.1 pc E = none) (hc : C mi (st.take n).reverse h (.inr E, h1)) (hr : Q (.inr E, h1)) : ax_wp C M Q pc lv st h := ⟨_, g_csx hd hm hc hn hw hE hh rfl, hr⟩
theorem w_cvc {ix mi n E t a : Nat} {as fs : List Value} {h1 : ax_H} (hd : M.2.2.1.lookup pc = some (.invokevirtual ix, nx, tg)) (hm : ax_tM.lookup (ax_key M ix) = some (mi, n)) (ha : (st.take n).reverse = .ref a :: as) (ho : h.1[a]? = some (some (.inr (ax_rc mi, fs)))) (hn : n ≤ st.length) (hw : ax_wsum (st.drop n) ≤ 8) (hE : E < 2) (hh : ax_hand M.1 M.2.2.2.1 pc E = some t) (hc : C mi (st.take n).reverse h (.inr E, h1)) (k : ax_wp C M Q t lv [.ref (h1.1.length - 1)] h1) : ax_wp C M Q pc lv st h := by
  obtain ⟨r, g1, g2⟩ := k
  exact ⟨r, g_cvc hd hm ha ho hc hn hw hE hh g1, g2⟩
theorem w_iret {x : Int32} {rt : FieldType} (hd : M.2.2.1.lookup pc = some (.ireturn, nx, tg)) (ht : M.2.1 = some rt) (hx : narrow rt (.int x) = .int x) (hr : Q (.inl (some (.int x)), h)) : ax_wp C M Q pc lv [.int x] h := ⟨_, g_iret hd ht hx rfl, hr⟩
theorem w_lret {x : Int64} (hd : M.2.2.1.lookup pc = some (.lreturn, nx, tg)) (ht : M.2.1 = some .long) (hr : Q (.inl (some (.long x)), h)) : ax_wp C M Q pc lv [.long x] h := ⟨_, g_lret hd ht rfl, hr⟩
theorem w_aret {v : Value} {n : String} (hd : M.2.2.1.lookup pc = some (.areturn, nx, tg)) (ht : M.2.1 = some (.object n)) (hv : ax_isA v = true) (hr : Q (.inl (some v), h)) : ax_wp C M Q pc lv [v] h := ⟨_, g_aret hd ht hv rfl, hr⟩
theorem w_vret (hd : M.2.2.1.lookup pc = some (.return_, nx, tg)) (ht : M.2.1 = none) (hr : Q (.inl none, h)) : ax_wp C M Q pc lv [] h := ⟨_, g_vret hd ht rfl, hr⟩
end AxWp
section AxInc
variable {C : Nat → List Value → ax_H → ax_R → Prop} {M : ax_M} {Q : ax_R → Prop} {pc nx tg : Nat} {lv lv' : ax_L} {st st' : List Value} {h h' : ax_H}
theorem w_iadd1 {n : Nat} (hd : M.2.2.1.lookup pc = some (.iadd, nx, tg)) (k : ax_wp C M Q nx lv (.int (nI (n + 1)) :: st) h) : ax_wp C M Q pc lv (.int (Int32.ofInt 1) :: .int (nI n) :: st) h := by
  rw [nI_succ] at k
  exact w_s hd rfl k
theorem w_isub1 {n : Nat} (hd : M.2.2.1.lookup pc = some (.isub, nx, tg)) (k : ax_wp C M Q nx lv (.int (nI n) :: st) h) : ax_wp C M Q pc lv (.int (Int32.ofInt 1) :: .int (nI (n + 1)) :: st) h := by
  refine w_s hd rfl ?_
  show ax_wp C M Q nx lv (.int (nI (n + 1) - Int32.ofInt 1) :: st) h
  have e : nI (n + 1) - Int32.ofInt 1 = nI n := by
    rw [nI_succ]
    show nI n + 1 - 1 = nI n
    rw [Int32.add_sub_cancel]
  rw [e]
  exact k
theorem w_iinc1 {k0 n : Nat} (hd : M.2.2.1.lookup pc = some (.iinc k0 1, nx, tg)) (hl : lv.lookup k0 = some (.int (nI n))) (k : ax_wp C M Q nx (ax_sto1 k0 (.int (nI (n + 1))) lv) st h) : ax_wp C M Q pc lv st h := by
  refine w_s (lv' := ax_sto1 k0 (.int (nI (n + 1))) lv) (st' := st) (h' := h) (pc' := nx) hd ?_ k
  show ax_iinc k0 1 nx lv st h = _
  unfold ax_iinc
  rw [hl, nI_succ]
  rfl
end AxInc
/-- one step where nothing need be shown -/
macro "g1" : tactic => `(tactic| first
  | refine w_iadd1 rfl ?_
  | refine w_isub1 rfl ?_
  | refine w_iinc1 rfl rfl ?_
  | refine w_s rfl rfl ?_
  | refine w_get rfl rfl rfl rfl ?_
  | refine w_nnl rfl ?_
  | refine w_nnlR rfl ?_
  | refine w_nul rfl ?_
  | refine w_nulR rfl ?_
  | refine w_ldc rfl rfl ?_
  | refine w_ldc2 rfl rfl ?_
  | refine w_put rfl rfl rfl (Nat.le_of_ble_eq_true rfl) (Or.inl rfl) rfl rfl ?_)
macro "gg" : tactic => `(tactic| repeat g1)
macro "gto" n:num : tactic => `(tactic| repeat ((fail_if_success (show ax_wp _ _ _ $n _ _ _)); g1))
end
section
/-! numbers: everything to Int, then omega -/
theorem q_nI (n : Nat) : (nI n).toInt = ((n : Int) + 2147483648) % 4294967296 - 2147483648 := by
  have : (nI n).toInt = Int.bmod n (2 ^ 32) := by simp [nI, Int32.toInt_ofNat]
  rw [this, Int.bmod]
  omega
theorem q_bm32 (x : Int) : Int.bmod x (2 ^ 32) = (x + 2147483648) % 4294967296 - 2147483648 := by
  rw [Int.bmod]
  omega
theorem q_bm64 (x : Int) : Int.bmod x (2 ^ 64) = (x + 9223372036854775808) % 18446744073709551616 - 9223372036854775808 := by
  rw [Int.bmod]
  omega
theorem q_add (a b : Int32) : (a + b).toInt = (a.toInt + b.toInt + 2147483648) % 4294967296 - 2147483648 := by rw [Int32.toInt_add, q_bm32]
theorem q_sub (a b : Int32) : (a - b).toInt = (a.toInt - b.toInt + 2147483648) % 4294967296 - 2147483648 := by rw [Int32.toInt_sub, q_bm32]
theorem q_mul (a b : Int32) : (a * b).toInt = (a.toInt * b.toInt + 2147483648) % 4294967296 - 2147483648 := by rw [Int32.toInt_mul, q_bm32]
theorem q_neg (a : Int32) : (-a).toInt = (-a.toInt + 2147483648) % 4294967296 - 2147483648 := by rw [Int32.toInt_neg, q_bm32]
theorem q_addL (a b : Int64) : (a + b).toInt = (a.toInt + b.toInt + 9223372036854775808) % 18446744073709551616 - 9223372036854775808 := by rw [Int64.toInt_add, q_bm64]
theorem q_subL (a b : Int64) : (a - b).toInt = (a.toInt - b.toInt + 9223372036854775808) % 18446744073709551616 - 9223372036854775808 := by rw [Int64.toInt_sub, q_bm64]
theorem q_mulL (a b : Int64) : (a * b).toInt = (a.toInt * b.toInt + 9223372036854775808) % 18446744073709551616 - 9223372036854775808 := by rw [Int64.toInt_mul, q_bm64]
theorem q_negL (a : Int64) : (-a).toInt = (-a.toInt + 9223372036854775808) % 18446744073709551616 - 9223372036854775808 := by rw [Int64.toInt_neg, q_bm64]
theorem q_i2l (a : Int32) : a.toInt64.toInt = a.toInt := Int32.toInt_toInt64 a
theorem q_l2i (a : Int64) : a.toInt32.toInt = (a.toInt + 2147483648) % 4294967296 - 2147483648 := by rw [Int64.toInt_toInt32, q_bm32]
theorem q_b (a : Int32) : -2147483648 ≤ a.toInt ∧ a.toInt < 2147483648 := ⟨a.le_toInt, a.toInt_lt⟩
theorem q_bL (a : Int64) : -9223372036854775808 ≤ a.toInt ∧ a.toInt < 9223372036854775808 := ⟨a.le_toInt, a.toInt_lt⟩
theorem q_eq {a b : Int32} : a = b ↔ a.toInt = b.toInt := Int32.toInt_inj.symm
theorem q_eqL {a b : Int64} : a = b ↔ a.toInt = b.toInt := Int64.toInt_inj.symm
theorem q_nIof {a : Int32} {n : Nat} (h : a.toInt = n) (hn : n < 2147483648) : a = nI n := by
  rw [q_eq, q_nI, h]
  omega
theorem q_succ (n : Nat) : nI n + Int32.ofInt 1 = nI (n + 1) := by rw [nI_succ]; rfl
theorem q_lg {x y : Int64} : (lg_cmp x y).toInt = if y.toInt < x.toInt then 1 else if x.toInt = y.toInt then 0 else -1 := by
  unfold lg_cmp
  simp only [gt_iff_lt, Int64.lt_iff_toInt_lt, q_eqL]
  split
  · rfl
  · split <;> rfl
theorem q_b8 (n : Int) : (Int8.ofInt n).toInt32.toInt = (n + 128) % 256 - 128 := by
  rw [Int8.toInt_toInt32, Int8.toInt_ofInt, show Int8.size = 256 from rfl, Int.bmod]
  omega
theorem q_b16 (n : Int) : (Int16.ofInt n).toInt32.toInt = (n + 32768) % 65536 - 32768 := by
  rw [Int16.toInt_toInt32, Int16.toInt_ofInt, show Int16.size = 65536 from rfl, Int.bmod]
  omega
theorem q_ofI (n : Int) : (Int32.ofInt n).toInt = (n + 2147483648) % 4294967296 - 2147483648 := by
  rw [Int32.toInt_ofInt]
  exact q_bm32 n
theorem q_lit (n : Nat) : (no_index (OfNat.ofNat n : Int32)).toInt = ((n : Int) + 2147483648) % 4294967296 - 2147483648 := q_nI n
theorem q_ofNL (n : Nat) : (Int64.ofNat n).toInt = ((n : Int) + 9223372036854775808) % 18446744073709551616 - 9223372036854775808 := by
  have : (Int64.ofNat n).toInt = Int.bmod n (2 ^ 64) := by simp [Int64.toInt_ofNat]
  rw [this, q_bm64]
theorem q_litL (n : Nat) : (no_index (OfNat.ofNat n : Int64)).toInt = ((n : Int) + 9223372036854775808) % 18446744073709551616 - 9223372036854775808 := q_ofNL n
end
section
/-! arrays by places that are numbers; calls of methods whose end is known -/
section AxW2
variable {C : Nat → List Value → ax_H → ax_R → Prop} {M : ax_M} {Q : ax_R → Prop} {pc nx tg : Nat} {lv lv' : ax_L} {st st' : List Value} {h h' : ax_H}
theorem w_in {i : Int32} {j n : Nat} (hj : i = nI j) (hl : j < n) (hn : n ≤ 1000000) : vp_in i n ∧ i.toNatClampNeg = j := by
  subst hj
  exact ⟨vp_in_nI hl (by omega), nI_clamp (by omega)⟩
theorem w_ia {a n j : Nat} {i : Int32} {f : Nat → Int32} (hd : M.2.2.1.lookup pc = some (.iaload, nx, tg)) (hc : h.1[a]? = some (some (.inl (0, n, .inl f)))) (hj : i = nI j) (hl : j < n) (hn : n ≤ 1000000) (k : ax_wp C M Q nx lv (.int (f j) :: st) h) : ax_wp C M Q pc lv (.int i :: .ref a :: st) h := by
  obtain ⟨h1, h2⟩ := w_in hj hl hn
  exact w_iald hd hc h1 (by rw [h2]; exact k)
theorem w_sa {a n j : Nat} {i : Int32} {f : Nat → Int32} (hd : M.2.2.1.lookup pc = some (.iaload, nx, tg)) (hc : h.1[a]? = some (some (.inl (9, n, .inl f)))) (hj : i = nI j) (hl : j < n) (hn : n ≤ 1000000) (k : ax_wp C M Q nx lv (.int (f j) :: st) h) : ax_wp C M Q pc lv (.int i :: .ref a :: st) h := by
  obtain ⟨h1, h2⟩ := w_in hj hl hn
  exact w_sald hd hc h1 (by rw [h2]; exact k)
theorem w_ca {a n j : Nat} {i : Int32} {f : Nat → Int32} (hd : M.2.2.1.lookup pc = some (.caload, nx, tg)) (hc : h.1[a]? = some (some (.inl (2, n, .inl f)))) (hj : i = nI j) (hl : j < n) (hn : n ≤ 1000000) (k : ax_wp C M Q nx lv (.int (f j) :: st) h) : ax_wp C M Q pc lv (.int i :: .ref a :: st) h := by
  obtain ⟨h1, h2⟩ := w_in hj hl hn
  exact w_cald hd hc h1 (by rw [h2]; exact k)
theorem w_la {a n j : Nat} {i : Int32} {f : Nat → Int64} (hd : M.2.2.1.lookup pc = some (.laload, nx, tg)) (hc : h.1[a]? = some (some (.inl (1, n, .inr (.inl f))))) (hj : i = nI j) (hl : j < n) (hn : n ≤ 1000000) (k : ax_wp C M Q nx lv (.long (f j) :: st) h) : ax_wp C M Q pc lv (.int i :: .ref a :: st) h := by
  obtain ⟨h1, h2⟩ := w_in hj hl hn
  exact w_lald hd hc h1 (by rw [h2]; exact k)
theorem w_aa {a n q j : Nat} {i : Int32} {f : Nat → Option Nat} (hd : M.2.2.1.lookup pc = some (.aaload, nx, tg)) (hc : h.1[a]? = some (some (.inl (q, n, .inr (.inr (.inr (.inr f))))))) (hq : q = 3 ∨ q = 4) (hj : i = nI j) (hl : j < n) (hn : n ≤ 1000000) (k : ax_wp C M Q nx lv (va_rf (f j) :: st) h) : ax_wp C M Q pc lv (.int i :: .ref a :: st) h := by
  obtain ⟨h1, h2⟩ := w_in hj hl hn
  exact w_aald hd hc hq h1 (by rw [h2]; exact k)
theorem w_ias {H : List (Option ax_C)} {u : Nat} {a n j : Nat} {i x : Int32} {f : Nat → Int32} (hd : M.2.2.1.lookup pc = some (.iastore, nx, tg)) (hc : H[a]? = some (some (.inl (0, n, .inl f)))) (hj : i = nI j) (hl : j < n) (hn : n ≤ 1000000) (k : ax_wp C M Q nx lv st (H.set a (some (.inl (0, n, .inl (upd f j x)))), u)) : ax_wp C M Q pc lv (.int x :: .int i :: .ref a :: st) (H, u) := by
  obtain ⟨h1, h2⟩ := w_in hj hl hn
  exact w_iast hd hc h1 (by rw [h2]; exact k)
theorem w_cas {H : List (Option ax_C)} {u : Nat} {a n j : Nat} {i x y : Int32} {f : Nat → Int32} (hd : M.2.2.1.lookup pc = some (.castore, nx, tg)) (hc : H[a]? = some (some (.inl (2, n, .inl f)))) (hj : i = nI j) (hl : j < n) (hn : n ≤ 1000000) (hy : vp_nar .char x = y) (k : ax_wp C M Q nx lv st (H.set a (some (.inl (2, n, .inl (upd f j y)))), u)) : ax_wp C M Q pc lv (.int x :: .int i :: .ref a :: st) (H, u) := by
  obtain ⟨h1, h2⟩ := w_in hj hl hn
  exact w_cast hd hc h1 (by rw [h2, hy]; exact k)
theorem w_las {H : List (Option ax_C)} {u : Nat} {a n j : Nat} {i : Int32} {x : Int64} {f : Nat → Int64} (hd : M.2.2.1.lookup pc = some (.lastore, nx, tg)) (hc : H[a]? = some (some (.inl (1, n, .inr (.inl f))))) (hj : i = nI j) (hl : j < n) (hn : n ≤ 1000000) (k : ax_wp C M Q nx lv st (H.set a (some (.inl (1, n, .inr (.inl (vp_updL f j x))))), u)) : ax_wp C M Q pc lv (.long x :: .int i :: .ref a :: st) (H, u) := by
  obtain ⟨h1, h2⟩ := w_in hj hl hn
  exact w_last hd hc h1 (by rw [h2]; exact k)
theorem w_aas {H : List (Option ax_C)} {u : Nat} {a n q v j : Nat} {i : Int32} {f : Nat → Option Nat} {fs : List Value} (hd : M.2.2.1.lookup pc = some (.aastore, nx, tg)) (hc : H[a]? = some (some (.inl (q, n, .inr (.inr (.inr (.inr f))))))) (hq : q = 3 ∨ q = 4) (hj : i = nI j) (hl : j < n) (hn : n ≤ 1000000) (hv : H[v]? = some (some (.inr (ax_cmp q, fs))))
    (k : ax_wp C M Q nx lv st (H.set a (some (.inl (q, n, .inr (.inr (.inr (.inr (va_up f j (some v)))))))), u)) : ax_wp C M Q pc lv (.ref v :: .int i :: .ref a :: st) (H, u) := by
  obtain ⟨h1, h2⟩ := w_in hj hl hn
  exact w_aast hd hc hq h1 hv (by rw [h2]; exact k)
theorem w_aasN {H : List (Option ax_C)} {u : Nat} {a n q j : Nat} {i : Int32} {f : Nat → Option Nat} (hd : M.2.2.1.lookup pc = some (.aastore, nx, tg)) (hc : H[a]? = some (some (.inl (q, n, .inr (.inr (.inr (.inr f))))))) (hq : q = 3 ∨ q = 4) (hj : i = nI j) (hl : j < n) (hn : n ≤ 1000000)
    (k : ax_wp C M Q nx lv st (H.set a (some (.inl (q, n, .inr (.inr (.inr (.inr (va_up f j none))))))), u)) : ax_wp C M Q pc lv (.null :: .int i :: .ref a :: st) (H, u) := by
  obtain ⟨h1, h2⟩ := w_in hj hl hn
  exact w_aastN hd hc hq h1 (by rw [h2]; exact k)
/-- the value on the stack is another's name -/
theorem w_eqI {x y : Int32} (e : x = y) (k : ax_wp C M Q pc lv (.int y :: st) h) : ax_wp C M Q pc lv (.int x :: st) h := e ▸ k
theorem w_eqL {x y : Int64} (e : x = y) (k : ax_wp C M Q pc lv (.long y :: st) h) : ax_wp C M Q pc lv (.long x :: st) h := e ▸ k
theorem w_post {Q' : ax_R → Prop} (k : ax_wp C M Q' pc lv st h) (hq : ∀ r, Q' r → Q r) : ax_wp C M Q pc lv st h := by
  obtain ⟨r, h1, h2⟩ := k
  exact ⟨r, h1, hq r h2⟩
end AxW2
/-- a call: static, virtual, making -/
macro "cS" t:term : tactic => `(tactic| (refine w_cs rfl rfl (by first | decide | exact Nat.le_of_ble_eq_true rfl) (by exact Nat.le_of_ble_eq_true rfl) $t ?_; dsimp only [Option.toList, List.drop, List.cons_append, List.nil_append]))
macro "cV" t:term : tactic => `(tactic| (refine w_cv rfl rfl rfl rfl (by exact Nat.le_of_ble_eq_true rfl) (by exact Nat.le_of_ble_eq_true rfl) $t ?_; dsimp only [Option.toList, List.drop, List.cons_append, List.nil_append]))
macro "cN" t:term : tactic => `(tactic| (refine w_ci rfl rfl rfl (by exact Nat.le_of_ble_eq_true rfl) (by exact Nat.le_of_ble_eq_true rfl) $t ?_; dsimp only [Option.toList, List.drop, List.cons_append, List.nil_append]))
macro "start" M:term : tactic => `(tactic| refine ax_T_of $M rfl (Nat.le_of_ble_eq_true rfl) ?_)
theorem ax_run_T {mi : Nat} {as : List Value} {h : ax_H} {r : ax_R} (q : ax_T mi as h (fun r' => r' = r)) : ax_run mi as h r := by
  obtain ⟨r', h1, rfl⟩ := q
  exact h1
macro "startR" M:term : tactic => `(tactic| refine ax_run_T (ax_T_of $M rfl (Nat.le_of_ble_eq_true rfl) ?_))
theorem q_bv (n : Nat) (h : n < 4294967296) : (nI n).toBitVec.toNat = n := by
  have : (nI n).toBitVec = BitVec.ofNat 32 n := by simp [nI]
  rw [this, BitVec.toNat_ofNat]
  omega
theorem q_nat {x : Int32} (h : 0 ≤ x.toInt) : ∃ n : Nat, x = nI n ∧ (n : Int) = x.toInt ∧ n < 2147483648 := by
  have hb := q_b x
  refine ⟨x.toInt.toNat, ?_, by omega, by omega⟩
  exact q_nIof (by omega) (by omega)
theorem q_char {x : Int32} (h : 0 ≤ x.toInt) (h2 : x.toInt < 128) : vp_nar .char (x.toUInt32 % 65536).toInt32 = x := by
  obtain ⟨n, rfl, h3, h4⟩ := q_nat h
  rw [pk_vc, pk_char, q_bv n (by omega)]
  congr 1
  omega
/-- booleans -/
def bI (b : Prop) [Decidable b] : Int32 := if b then 1 else 0
section
variable {P : Prop} [Decidable P]
theorem bI_t (h : P) : bI P = Int32.ofInt 1 := by unfold bI; rw [if_pos h]; rfl
theorem bI_f (h : ¬ P) : bI P = Int32.ofInt 0 := by unfold bI; rw [if_neg h]; rfl
theorem c_eq0 : ax_cnd .eq (bI P) 0 ↔ ¬ P := by
  by_cases h : P
  · rw [bI_t h]
    exact ⟨fun z => absurd z (by simp [ax_cnd]), fun z => absurd h z⟩
  · rw [bI_f h]
    exact ⟨fun _ => h, fun _ => rfl⟩
theorem c_ne0 : ax_cnd .ne (bI P) 0 ↔ P := by
  by_cases h : P
  · rw [bI_t h]
    exact ⟨fun _ => h, fun _ => by simp [ax_cnd]⟩
  · rw [bI_f h]
    exact ⟨fun z => absurd rfl z, fun z => absurd z h⟩
theorem bI_nar : narrow .boolean (.int (bI P)) = .int (bI P) := by
  by_cases h : P
  · rw [bI_t h]; rfl
  · rw [bI_f h]; rfl
theorem bI_nn : ¬ ¬ P ↔ P := Decidable.not_not
end
theorem bI_iff {P R : Prop} [Decidable P] [Decidable R] (h : P ↔ R) : bI P = bI R := by
  by_cases hp : P
  · rw [bI_t hp, bI_t (h.mp hp)]
  · rw [bI_f hp, bI_f (fun z => hp (h.mpr z))]
theorem c_Llt {x y : Int64} : ax_cnd .lt (lg_cmp x y) 0 ↔ x.toInt < y.toInt := (lg_cmp_lt x y).trans Int64.lt_iff_toInt_lt
theorem c_Lle {x y : Int64} : ax_cnd .le (lg_cmp x y) 0 ↔ x.toInt ≤ y.toInt := (lg_cmp_le x y).trans Int64.le_iff_toInt_le
theorem c_Lgt {x y : Int64} : ax_cnd .gt (lg_cmp x y) 0 ↔ y.toInt < x.toInt := (lg_cmp_gt x y).trans Int64.lt_iff_toInt_lt
theorem c_Lge {x y : Int64} : ax_cnd .ge (lg_cmp x y) 0 ↔ y.toInt ≤ x.toInt := (lg_cmp_ge x y).trans Int64.le_iff_toInt_le
theorem c_Leq {x y : Int64} : ax_cnd .eq (lg_cmp x y) 0 ↔ x.toInt = y.toInt := (lg_cmp_eq x y).trans q_eqL
theorem c_Lne {x y : Int64} : ax_cnd .ne (lg_cmp x y) 0 ↔ ¬ x.toInt = y.toInt := not_congr ((lg_cmp_eq x y).trans q_eqL)
/-- all to Int -/
macro "zz" : tactic => `(tactic| ((try simp only [c_eq0, c_ne0, c_Llt, c_Lle, c_Lgt, c_Lge, c_Leq, c_Lne] at *); try simp only [ax_cnd, vp_in_iff, Int32.lt_iff_toInt_lt, Int32.le_iff_toInt_le, Int64.lt_iff_toInt_lt, Int64.le_iff_toInt_le, q_eq, q_eqL, q_lg, q_nI, q_add, q_sub, q_mul, q_neg, q_addL, q_subL, q_mulL, q_negL, q_i2l, q_l2i, q_b8, q_b16, q_ofI, q_lit, q_ofNL, q_litL, ne_eq, gt_iff_lt, ge_iff_le] at *))
macro "zo" : tactic => `(tactic| (zz <;> omega))
/-- a branch, its two ways -/
macro "br" : tactic => `(tactic| first
  | refine w_if2 rfl (fun _ => ?_) (fun _ => ?_)
  | refine w_if1 rfl (fun _ => ?_) (fun _ => ?_))
macro "ir" : tactic => `(tactic| refine w_iret rfl rfl rfl ?_)
theorem bT {P : Prop} [Decidable P] {h : ax_H} (hp : P) : ((.inl (some (.int (Int32.ofInt 1))), h) : ax_R) = (.inl (some (.int (bI P))), h) := by rw [bI_t hp]
theorem bF {P : Prop} [Decidable P] {h : ax_H} (hp : ¬ P) : ((.inl (some (.int (Int32.ofInt 0))), h) : ax_R) = (.inl (some (.int (bI P))), h) := by rw [bI_f hp]
macro "bt" : tactic => `(tactic| first | exact bT (by zo) | exact bF (by zo) | (exfalso; zo))
macro "thr" : tactic => `(tactic| refine w_thr rfl rfl rfl rfl rfl (by decide) rfl rfl ?_)
macro "brp" : tactic => `(tactic| (br <;> try (exfalso; zo; done)))
macro "go" : tactic => `(tactic| repeat' (first | g1 | brp))
macro "pr" : tactic => `(tactic| first | (thr; rfl) | (exfalso; zo))
theorem q_idx (d a b : Int32) (j k n : Nat) (hj : j < 100000) (hk : k < 100000) (hd : d.toInt = n) (hn : n < 100) (ha : a.toInt = j) (hb : b.toInt = k) : d * a + b = nI (n * j + k) ∧ a * d + b = nI (n * j + k) := by
  have h1 : (n : Int) * (j : Int) < 10000000 ∧ 0 ≤ (n : Int) * (j : Int) := by
    constructor
    · have : n * j ≤ 99 * 100000 := Nat.mul_le_mul (by omega) (by omega)
      have h2 : ((n * j : Nat) : Int) = (n : Int) * j := Int.natCast_mul n j
      omega
    · have h2 : ((n * j : Nat) : Int) = (n : Int) * j := Int.natCast_mul n j
      omega
  have e1 : ((n * j + k : Nat) : Int) = (n : Int) * j + k := by
    rw [Int.natCast_add, Int.natCast_mul]
  constructor
  · rw [q_eq, q_add, q_mul, q_nI, hd, ha, hb, e1]
    generalize (n : Int) * (j : Int) = z at h1
    omega
  · rw [q_eq, q_add, q_mul, q_nI, hd, ha, hb, e1, Int.mul_comm (j : Int) (n : Int)]
    generalize (n : Int) * (j : Int) = z at h1
    omega
theorem q_nI' {n : Nat} (h : n < 2147483648) : (nI n).toInt = n := by rw [q_nI]; omega
/-! places, without Int -/
theorem nI_addR (a b : Nat) : nI a + nI b = nI (a + b) := by
  rw [q_eq, q_add, q_nI, q_nI, q_nI]
  omega
theorem nI_mulR (a b : Nat) : nI a * nI b = nI (a * b) := by
  have : nI (a * b) = nI a * nI b := by simp [nI, Int32.ofNat_mul]
  exact this.symm
theorem kb6 : (Int8.ofInt 6).toInt32 = nI 6 := by decide
theorem kb7 : (Int8.ofInt 7).toInt32 = nI 7 := by decide
theorem kb8 : (Int8.ofInt 8).toInt32 = nI 8 := by decide
theorem kb9 : (Int8.ofInt 9).toInt32 = nI 9 := by decide
theorem kb16 : (Int8.ofInt 16).toInt32 = nI 16 := by decide
theorem ki0 : Int32.ofInt 0 = nI 0 := by decide
theorem ki1 : Int32.ofInt 1 = nI 1 := by decide
theorem ki2 : Int32.ofInt 2 = nI 2 := by decide
theorem ki3 : Int32.ofInt 3 = nI 3 := by decide
theorem ki4 : Int32.ofInt 4 = nI 4 := by decide
theorem ki5 : Int32.ofInt 5 = nI 5 := by decide
macro "ix" : tactic => `(tactic| (simp only [kb6, kb7, kb8, kb9, kb16, ki0, ki1, ki2, ki3, ki4, ki5, nI_addR, nI_mulR]; try (congr 1; omega)))
theorem c_lt0 {x : Int32} : ax_cnd .lt x 0 ↔ x.toInt < 0 := Int32.lt_iff_toInt_lt
theorem c_ge0 {x : Int32} : ax_cnd .ge x 0 ↔ 0 ≤ x.toInt := Int32.le_iff_toInt_le
theorem cn_ge {a b : Nat} (ha : a < 2147483648) (hb : b < 2147483648) : ax_cnd .ge (nI a) (nI b) ↔ b ≤ a := by
  refine Int32.le_iff_toInt_le.trans ?_
  rw [q_nI' ha, q_nI' hb]
  omega
theorem cn_lt {a b : Nat} (ha : a < 2147483648) (hb : b < 2147483648) : ax_cnd .lt (nI a) (nI b) ↔ a < b := by
  refine Int32.lt_iff_toInt_lt.trans ?_
  rw [q_nI' ha, q_nI' hb]
  omega
theorem cn_eq {a b : Nat} (ha : a < 2147483648) (hb : b < 2147483648) : ax_cnd .eq (nI a) (nI b) ↔ a = b := by
  refine q_eq.trans ?_
  rw [q_nI' ha, q_nI' hb]
  omega
theorem cn_ne {a b : Nat} (ha : a < 2147483648) (hb : b < 2147483648) : ax_cnd .ne (nI a) (nI b) ↔ ¬ a = b := not_congr (cn_eq ha hb)
end
section
/-! the class's methods that look at nobody's offer -/
section CA
variable {L : Nat} {xs : Nat → Int32} {c : ax_St} {m : ax_Mo} {o : Nat → Int64} {pool : List (Option ax_C)} {u : Nat} {h : ax_H}
theorem r_noLayer (x : Int32) : ax_run m_ML_isNoLayer [.int x] h (.inl (some (.int (bI (¬ (0 ≤ x.toInt ∧ x.toInt < 8))))), h) := by
  startR M_ML_isNoLayer
  gg; br <;> gg
  · ir; bt
  · br <;> gg <;> ir <;> bt
theorem r_noCell (x : Int32) : ax_run m_Ce_isNoCell [.int x] h (.inl (some (.int (bI (¬ (0 ≤ x.toInt ∧ x.toInt < 16))))), h) := by
  startR M_Ce_isNoCell
  gg; br <;> gg
  · ir; bt
  · br <;> gg <;> ir <;> bt
theorem r_Bd_hasNo (x : Int32) (hn : c.bn ≤ 60) : ax_run m_Bd_hasNo [.ref 5, .int x] (ax_hp L xs c m o pool, u) (.inl (some (.int (bI (¬ (0 ≤ x.toInt ∧ x.toInt < c.bn))))), (ax_hp L xs c m o pool, u)) := by
  startR M_Bd_hasNo
  gg; br <;> gg
  · ir; bt
  · br <;> gg <;> ir <;> bt
theorem r_Or_hasNo (x : Int32) (hn : c.on ≤ 20) : ax_run m_Or_hasNo [.ref 18, .int x] (ax_hp L xs c m o pool, u) (.inl (some (.int (bI (¬ (0 ≤ x.toInt ∧ x.toInt < c.on))))), (ax_hp L xs c m o pool, u)) := by
  startR M_Or_hasNo
  gg; br <;> gg
  · ir; bt
  · br <;> gg <;> ir <;> bt
theorem r_Tx_add0 (x : Int32) (hn : c.tl ≤ 400) (hx : x.toInt < 32 ∨ 126 < x.toInt ∨ c.tl = 400) : ax_run m_Tx_add [.ref 2, .int x] (ax_hp L xs c m o pool, u) (.inl (some (.int 0)), (ax_hp L xs c m o pool, u)) := by
  startR M_Tx_add
  gg; br <;> gg
  · ir; rfl
  · br <;> gg
    · ir; rfl
    · br <;> gg
      · exfalso; zo
      · ir; rfl
theorem r_Tx_add1 (x : Int32) (hn : c.tl < 400) (h1 : 32 ≤ x.toInt) (h2 : x.toInt ≤ 126) : ax_run m_Tx_add [.ref 2, .int x] (ax_hp L xs c m o pool, u) (.inl (some (.int 1)), (ax_hp L xs { c with ch := upd c.ch c.tl x, tl := c.tl + 1 } m o pool, u)) := by
  startR M_Tx_add
  gg; br <;> gg
  · exfalso; zo
  · br <;> gg
    · exfalso; zo
    · br <;> gg
      · refine w_cas rfl rfl rfl hn (by decide) (q_char (by omega) (by omega)) ?_
        gg
        ir
        rfl
      · exfalso; zo
theorem r_unit (x : Int32) (hn : c.tl ≤ 400) : ax_run m_ML_unit [.ref 1, .int x] (ax_hp L xs c m o pool, u)
    (if x.toInt < 32 ∨ 126 < x.toInt ∨ c.tl = 400 then (.inl (some (.int 0)), (ax_hp L xs c m o pool, u)) else (.inl (some (.int 1)), (ax_hp L xs { c with ch := upd c.ch c.tl x, tl := c.tl + 1 } m o pool, u))) := by
  startR M_ML_unit
  gg
  by_cases hx : x.toInt < 32 ∨ 126 < x.toInt ∨ c.tl = 400
  · rw [if_pos hx]
    cV (r_Tx_add0 x hn hx)
    ir; rfl
  · rw [if_neg hx]
    cV (r_Tx_add1 x (by omega) (by omega) (by omega))
    ir; rfl
theorem r_Bd_add0 (k v y : Int32) (hn : c.bn = 60) : ax_run m_Bd_add [.ref 5, .int k, .int v, .int y] (ax_hp L xs c m o pool, u) (.inl (some (.int (-1))), (ax_hp L xs c m o pool, u)) := by
  startR M_Bd_add
  gg; br <;> gg
  · exfalso; zo
  · ir; rfl
theorem r_Bd_add1 (k v y : Int32) (hn : c.bn < 60) : ax_run m_Bd_add [.ref 5, .int k, .int v, .int y] (ax_hp L xs c m o pool, u) (.inl (some (.int (nI c.bn))), (ax_hp L xs { c with kinds := upd c.kinds c.bn k, values := upd c.values c.bn v, layers := upd c.layers c.bn y, xs := upd c.xs c.bn 0, ys := upd c.ys c.bn 0, bn := c.bn + 1 } m o pool, u)) := by
  startR M_Bd_add
  gg; br <;> gg
  · refine w_ias rfl rfl rfl hn (by decide) ?_
    gg
    refine w_ias rfl rfl rfl hn (by decide) ?_
    gg
    refine w_ias rfl rfl rfl hn (by decide) ?_
    gg
    refine w_ias rfl rfl rfl hn (by decide) ?_
    gg
    refine w_ias rfl rfl rfl hn (by decide) ?_
    gg
    ir
    rfl
  · exfalso; zo
end CA
end
section
/-! an end of a call of the class: an answer and a state, or a throw -/
abbrev ax_SR : Type := (Value × ax_St) ⊕ Nat
def ax_out (L : Nat) (xs : Nat → Int32) (m : ax_Mo) (o : Nat → Int64) (pool : List (Option ax_C)) (u : Nat) (c : ax_St) : ax_SR → ax_R
  | .inl q => (.inl (some q.1), (ax_hp L xs q.2 m o pool, u))
  | .inr E => (.inr E, (ax_hp L xs c m o (pool ++ [none]), u + 6))
section CA
variable {L : Nat} {xs : Nat → Int32} {c : ax_St} {m : ax_Mo} {o : Nat → Int64} {pool : List (Option ax_C)} {u : Nat} {h : ax_H}
def sp_thing (c : ax_St) (k : Int32) (v : Int64) (y : Int32) : ax_SR :=
  if ¬ (0 ≤ k.toInt ∧ k.toInt < 6 ∧ 0 ≤ y.toInt ∧ y.toInt < 8) then .inr 0 else if ¬ (0 ≤ v.toInt ∧ v.toInt ≤ 1000000) then .inr 1 else if c.bn = 60 then .inl (.int (-1), c)
  else .inl (.int (nI c.bn), { c with kinds := upd c.kinds c.bn k, values := upd c.values c.bn v.toInt32, layers := upd c.layers c.bn y, xs := upd c.xs c.bn 0, ys := upd c.ys c.bn 0, bn := c.bn + 1 })
theorem r_thing (k : Int32) (v : Int64) (y : Int32) (hn : c.bn ≤ 60) : ax_run m_ML_thing [.ref 1, .int k, .long v, .int y] (ax_hp L xs c m o pool, u) (ax_out L xs m o pool u c (sp_thing c k v y)) := by
  unfold sp_thing
  split
  · startR M_ML_thing
    go <;> try pr
    cS (r_noLayer y)
    go <;> pr
  · split
    · startR M_ML_thing
      go <;> try pr
      cS (r_noLayer y)
      go <;> pr
    · startR M_ML_thing
      go <;> try pr
      cS (r_noLayer y)
      go <;> try pr
      split
      · cV (r_Bd_add0 k v.toInt32 y (by assumption))
        ir; rfl
      · cV (r_Bd_add1 k v.toInt32 y (by omega))
        ir; rfl
def sp_at (c : ax_St) (t : Int32) (px py : Int64) : ax_SR :=
  if ¬ (0 ≤ t.toInt ∧ t.toInt < c.bn) then .inr 0 else if ¬ (-1000000 ≤ px.toInt ∧ px.toInt ≤ 1000000 ∧ -1000000 ≤ py.toInt ∧ py.toInt ≤ 1000000) then .inr 1
  else .inl (.int (bI (¬ (c.xs t.toInt.toNat = px.toInt32 ∧ c.ys t.toInt.toNat = py.toInt32))), { c with xs := upd c.xs t.toInt.toNat px.toInt32, ys := upd c.ys t.toInt.toNat py.toInt32 })
theorem r_Bd_move (t : Nat) (x y : Int32) (hn : c.bn ≤ 60) (ht : t < c.bn) : ax_run m_Bd_move [.ref 5, .int (nI t), .int x, .int y] (ax_hp L xs c m o pool, u) (.inl (some (.int (bI (¬ (c.xs t = x ∧ c.ys t = y))))), (ax_hp L xs { c with xs := upd c.xs t x, ys := upd c.ys t y } m o pool, u)) := by
  startR M_Bd_move
  gg
  cV (r_Bd_hasNo (nI t) hn)
  go <;> try pr
  refine w_ia rfl rfl rfl (by omega) (by decide) ?_
  have fin : ∀ (b : Int32), b = bI (¬ (c.xs t = x ∧ c.ys t = y)) → ax_wp ax_run M_Bd_move (fun r' => r' = (.inl (some (.int (bI (¬ (c.xs t = x ∧ c.ys t = y))))), (ax_hp L xs { c with xs := upd c.xs t x, ys := upd c.ys t y } m o pool, u))) 37 [(4, .int b), (0, .ref 5), (1, .int (nI t)), (2, .int x), (3, .int y)] [] (ax_hp L xs c m o pool, u) := by
    intro b hb
    gg
    refine w_ias rfl rfl rfl (by omega) (by decide) ?_
    gg
    refine w_ias rfl rfl rfl (by omega) (by decide) ?_
    gg
    refine w_iret rfl rfl (by rw [hb]; exact bI_nar) ?_
    rw [hb]
    rfl
  gg
  refine w_if2 rfl (fun h1 => ?_) (fun h1 => ?_)
  · gto 37
    exact w_lv (fin (Int32.ofInt 1) (bI_t (P := ¬ (c.xs t = x ∧ c.ys t = y)) (fun z => h1 z.1)).symm) rfl ⟨rfl, rfl, rfl, rfl, rfl, trivial⟩
  · gg
    refine w_ia rfl rfl rfl (by omega) (by decide) ?_
    gg
    refine w_if2 rfl (fun h2 => ?_) (fun h2 => ?_)
    · gto 37
      exact w_lv (fin (Int32.ofInt 0) (bI_f (fun z => z ⟨Decidable.not_not.mp h1, h2⟩)).symm) rfl ⟨rfl, rfl, rfl, rfl, rfl, trivial⟩
    · gto 37
      exact w_lv (fin (Int32.ofInt 1) (bI_t (P := ¬ (c.xs t = x ∧ c.ys t = y)) (fun z => h2 z.2)).symm) rfl ⟨rfl, rfl, rfl, rfl, rfl, trivial⟩
theorem r_at (t : Int32) (px py : Int64) (hn : c.bn ≤ 60) : ax_run m_ML_at [.ref 1, .int t, .long px, .long py] (ax_hp L xs c m o pool, u) (ax_out L xs m o pool u c (sp_at c t px py)) := by
  unfold sp_at
  split
  · startR M_ML_at
    gg
    cV (r_Bd_hasNo t hn)
    go <;> pr
  · split
    · startR M_ML_at
      gg
      cV (r_Bd_hasNo t hn)
      go <;> pr
    · rename_i h1 h2
      obtain ⟨n, rfl, hn1, hn2⟩ := q_nat (x := t) (by omega)
      startR M_ML_at
      gg
      cV (r_Bd_hasNo (nI n) hn)
      go <;> try pr
      cV (r_Bd_move n px.toInt32 py.toInt32 hn (by omega))
      refine w_iret rfl rfl bI_nar ?_
      rw [← hn1]
      rfl
end CA
end
section
section CB
variable {L : Nat} {xs : Nat → Int32} {c : ax_St} {m : ax_Mo} {o : Nat → Int64} {pool : List (Option ax_C)} {u : Nat} {h : ax_H}
theorem r_thingOf0 (k : Int32) (hn : c.rn ≤ 60) (hk : ¬ (0 ≤ k.toInt ∧ k.toInt < c.rn)) : ax_run m_Re_thingOf [.ref 11, .int k] (ax_hp L xs c m o pool, u) (.inl (some (.int (-1))), (ax_hp L xs c m o pool, u)) := by
  startR M_Re_thingOf
  go <;> (ir; rfl)
theorem r_thingOf1 (k : Nat) (hn : c.rn ≤ 60) (hk : k < c.rn) : ax_run m_Re_thingOf [.ref 11, .int (nI k)] (ax_hp L xs c m o pool, u) (.inl (some (.int (c.rt k))), (ax_hp L xs c m o pool, u)) := by
  startR M_Re_thingOf
  go <;> try pr
  refine w_ia rfl rfl rfl (by omega) (by decide) ?_
  ir; rfl
theorem r_excessOf1 (k : Nat) (hn : c.rn ≤ 60) (hk : k < c.rn) : ax_run m_Re_excessOf [.ref 11, .int (nI k)] (ax_hp L xs c m o pool, u) (.inl (some (.int (c.re k))), (ax_hp L xs c m o pool, u)) := by
  startR M_Re_excessOf
  go <;> try pr
  refine w_ia rfl rfl rfl (by omega) (by decide) ?_
  ir; rfl
def sp_part (c : ax_St) (t w : Nat) : Int32 := match w with
  | 1 => c.kinds t
  | 3 => c.layers t
  | 4 => c.xs t
  | _ => c.ys t
theorem r_Bd_part (t w : Nat) (hn : c.bn ≤ 60) (ht : t < c.bn) (hw : w = 1 ∨ w = 3 ∨ w = 4 ∨ w = 5) : ax_run m_Bd_part [.ref 5, .int (nI t), .int (nI w)] (ax_hp L xs c m o pool, u) (.inl (some (.int (sp_part c t w))), (ax_hp L xs c m o pool, u)) := by
  startR M_Bd_part
  gg
  cV (r_Bd_hasNo (nI t) hn)
  go <;> try pr
  rcases hw with rfl | rfl | rfl | rfl
  · refine w_tsw rfl rfl ?_
    gg
    refine w_ia rfl rfl rfl (by omega) (by decide) ?_
    ir; rfl
  · refine w_tsw rfl rfl ?_
    gg
    refine w_ia rfl rfl rfl (by omega) (by decide) ?_
    ir; rfl
  · refine w_tsw rfl rfl ?_
    gg
    refine w_ia rfl rfl rfl (by omega) (by decide) ?_
    ir; rfl
  · refine w_tsw rfl rfl ?_
    gg
    refine w_ia rfl rfl rfl (by omega) (by decide) ?_
    ir; rfl
def sp_rmk (c : ax_St) (k w : Nat) : Int32 := match w with
  | 0 => c.rt k
  | 2 => c.re k
  | w => sp_part c (c.rt k).toInt.toNat w
def sp_remark (c : ax_St) (k w : Int32) : ax_SR :=
  if ¬ (0 ≤ w.toInt ∧ w.toInt < 6) then .inr 0 else if ¬ (0 ≤ k.toInt ∧ k.toInt < c.rn) then .inl (.int (-1), c) else .inl (.int (sp_rmk c k.toInt.toNat w.toInt.toNat), c)
theorem r_remark (k w : Int32) (hn : c.rn ≤ 60) (hb : c.bn ≤ 60) (hr : ∀ k, k < c.rn → ∃ t, t < c.bn ∧ c.rt k = nI t) : ax_run m_ML_remark [.ref 1, .int k, .int w] (ax_hp L xs c m o pool, u) (ax_out L xs m o pool u c (sp_remark c k w)) := by
  unfold sp_remark
  split
  · startR M_ML_remark
    go <;> pr
  · split
    · startR M_ML_remark
      go <;> try pr
      cV (r_thingOf0 k hn (by assumption))
      go <;> try pr
      ir; rfl
    · rename_i h1 h2
      obtain ⟨j, rfl, hj1, hj2⟩ := q_nat (x := k) (by omega)
      obtain ⟨v, rfl, hv1, hv2⟩ := q_nat (x := w) (by omega)
      obtain ⟨t, ht1, ht2⟩ := hr j (by omega)
      rw [← hj1, ← hv1]
      startR M_ML_remark
      go <;> try pr
      cV (r_thingOf1 j hn (by omega))
      rw [ht2]
      go <;> try pr
      have hv : v = 0 ∨ v = 1 ∨ v = 2 ∨ v = 3 ∨ v = 4 ∨ v = 5 := by omega
      have htt : (nI t).toInt.toNat = t := by rw [nI_toInt (by omega)]; rfl
      rcases hv with rfl | rfl | rfl | rfl | rfl | rfl
      · refine w_lsw rfl rfl ?_
        gg
        ir
        show _ = (Sum.inl (some (Value.int (c.rt j))), _)
        rw [ht2]
        try rfl
      · refine w_lsw rfl rfl ?_
        gg
        cV (r_Bd_part t 1 hb ht1 (by decide))
        ir
        show _ = (Sum.inl (some (Value.int (sp_part c (c.rt j).toInt.toNat 1))), _)
        rw [ht2, htt]
        try rfl
      · refine w_lsw rfl rfl ?_
        gg
        cV (r_excessOf1 j hn (by omega))
        ir
        rfl
      · refine w_lsw rfl rfl ?_
        gg
        cV (r_Bd_part t 3 hb ht1 (by decide))
        ir
        show _ = (Sum.inl (some (Value.int (sp_part c (c.rt j).toInt.toNat 3))), _)
        rw [ht2, htt]
        try rfl
      · refine w_lsw rfl rfl ?_
        gg
        cV (r_Bd_part t 4 hb ht1 (by decide))
        ir
        show _ = (Sum.inl (some (Value.int (sp_part c (c.rt j).toInt.toNat 4))), _)
        rw [ht2, htt]
        try rfl
      · refine w_lsw rfl rfl ?_
        gg
        cV (r_Bd_part t 5 hb ht1 (by decide))
        ir
        show _ = (Sum.inl (some (Value.int (sp_part c (c.rt j).toInt.toNat 5))), _)
        rw [ht2, htt]
        try rfl
def sp_history (c : ax_St) (k w : Int32) : ax_SR :=
  if ¬ (0 ≤ k.toInt ∧ k.toInt < c.on ∧ 0 ≤ w.toInt ∧ w.toInt < 7) then .inr 0 else .inl (.int (c.parts (7 * k.toInt.toNat + w.toInt.toNat)), c)
theorem r_Or_part (k w : Nat) (hn : c.on ≤ 20) (hk : k < c.on) (hw : w < 7) : ax_run m_Or_part [.ref 18, .int (nI k), .int (nI w)] (ax_hp L xs c m o pool, u) (.inl (some (.int (c.parts (7 * k + w)))), (ax_hp L xs c m o pool, u)) := by
  startR M_Or_part
  gg
  cV (r_Or_hasNo (nI k) hn)
  go <;> try pr
  refine w_ia (j := 7 * k + w) rfl rfl (by zo) (by omega) (by decide) ?_
  ir; rfl
theorem r_history (k w : Int32) (hn : c.on ≤ 20) : ax_run m_ML_history [.ref 1, .int k, .int w] (ax_hp L xs c m o pool, u) (ax_out L xs m o pool u c (sp_history c k w)) := by
  unfold sp_history
  split
  · startR M_ML_history
    gg
    cV (r_Or_hasNo k hn)
    go <;> pr
  · rename_i h1
    obtain ⟨j, rfl, hj1, hj2⟩ := q_nat (x := k) (by omega)
    obtain ⟨v, rfl, hv1, hv2⟩ := q_nat (x := w) (by omega)
    rw [← hj1, ← hv1]
    startR M_ML_history
    gg
    cV (r_Or_hasNo (nI j) hn)
    go <;> try pr
    cV (r_Or_part j v hn (by omega) (by omega))
    ir; rfl
end CB
end
section
section CC
variable {L : Nat} {xs : Nat → Int32} {c : ax_St} {m : ax_Mo} {o : Nat → Int64} {pool : List (Option ax_C)} {u : Nat} {h : ax_H}
def sp_share (c : ax_St) (a q : Int64) (k : Int32) : ax_SR :=
  if ¬ (1 ≤ q.toInt ∧ q.toInt ≤ 1000000 ∧ 0 ≤ a.toInt) then .inr 1 else if ¬ (0 ≤ k.toInt ∧ k.toInt < q.toInt) then .inr 0 else .inl (.long (a / q + (if k.toInt < (a - a / q * q).toInt then 1 else 0)), c)
theorem r_share (a q : Int64) (k : Int32) : ax_run m_ML_share [.ref 1, .long a, .long q, .int k] (ax_hp L xs c m o pool, u) (ax_out L xs m o pool u c (sp_share c a q k)) := by
  unfold sp_share
  split
  · startR M_ML_share
    go <;> try pr
    all_goals (exfalso; zo)
  · split
    · startR M_ML_share
      go <;> try pr
      all_goals (exfalso; zo)
    · startR M_ML_share
      go <;> try pr
      refine w_lrem rfl (by zo) ?_
      gg
      refine w_ldiv rfl (by zo) ?_
      gg
      refine w_if1 rfl (fun h1 => ?_) (fun h1 => ?_)
      · gg
        refine w_lret rfl rfl ?_
        rw [if_neg (by have h2 := (lg_cmp_ge _ _).mp h1; rw [Int64.le_iff_toInt_le, q_i2l] at h2; omega)]
        rfl
      · gg
        refine w_lret rfl rfl ?_
        rw [if_pos (by have h2 : ¬ (a - a / q * q ≤ k.toInt64) := fun z => h1 ((lg_cmp_ge _ _).mpr z); rw [Int64.le_iff_toInt_le, q_i2l] at h2; omega)]
        rfl
def sp_copper (c : ax_St) (l k : Int32) (a b : Int64) : ax_SR :=
  if ¬ (0 ≤ l.toInt ∧ l.toInt < 8 ∧ 0 ≤ k.toInt ∧ k.toInt < 16) then .inr 0 else if ¬ (1 ≤ b.toInt ∧ b.toInt ≤ 10 ∧ 0 ≤ a.toInt ∧ a.toInt ≤ b.toInt) then .inr 1
  else .inl (.int (bI (¬ (c.ab (16 * l.toInt.toNat + k.toInt.toNat) = a.toInt32 ∧ c.be (16 * l.toInt.toNat + k.toInt.toNat) = b.toInt32))), { c with ab := upd c.ab (16 * l.toInt.toNat + k.toInt.toNat) a.toInt32, be := upd c.be (16 * l.toInt.toNat + k.toInt.toNat) b.toInt32 })
theorem r_Ce_tell (l k : Nat) (x y : Int32) (hl : l < 8) (hk : k < 16) : ax_run m_Ce_tell [.ref 20, .int (nI l), .int (nI k), .int x, .int y] (ax_hp L xs c m o pool, u) (.inl (some (.int (bI (¬ (c.ab (16 * l + k) = x ∧ c.be (16 * l + k) = y))))), (ax_hp L xs { c with ab := upd c.ab (16 * l + k) x, be := upd c.be (16 * l + k) y } m o pool, u)) := by
  startR M_Ce_tell
  gg
  cS (r_noLayer (nI l))
  go <;> try pr
  cS (r_noCell (nI k))
  gto 11
  br
  · gto 22
    refine w_eqI (y := nI (16 * l + k)) (by zo) ?_
    gg
    refine w_ia rfl rfl rfl (by omega) (by decide) ?_
    have fin : ∀ (b : Int32), b = bI (¬ (c.ab (16 * l + k) = x ∧ c.be (16 * l + k) = y)) → ax_wp ax_run M_Ce_tell (fun r' => r' = (.inl (some (.int (bI (¬ (c.ab (16 * l + k) = x ∧ c.be (16 * l + k) = y))))), (ax_hp L xs { c with ab := upd c.ab (16 * l + k) x, be := upd c.be (16 * l + k) y } m o pool, u))) 54 [(6, .int b), (0, .ref 20), (5, .int (nI (16 * l + k))), (3, .int x), (4, .int y)] [] (ax_hp L xs c m o pool, u) := by
      intro b hb
      gg
      refine w_ias rfl rfl rfl (by omega) (by decide) ?_
      gg
      refine w_ias rfl rfl rfl (by omega) (by decide) ?_
      gg
      refine w_iret rfl rfl (by rw [hb]; exact bI_nar) ?_
      rw [hb]
      rfl
    gg
    refine w_if2 rfl (fun h1 => ?_) (fun h1 => ?_)
    · gto 54
      exact w_lv (fin (Int32.ofInt 1) (bI_t (P := ¬ (c.ab (16 * l + k) = x ∧ c.be (16 * l + k) = y)) (fun z => h1 z.1)).symm) rfl ⟨rfl, rfl, rfl, rfl, rfl, trivial⟩
    · gg
      refine w_ia rfl rfl rfl (by omega) (by decide) ?_
      gg
      refine w_if2 rfl (fun h2 => ?_) (fun h2 => ?_)
      · gto 54
        exact w_lv (fin (Int32.ofInt 0) (bI_f (fun z => z ⟨Decidable.not_not.mp h1, h2⟩)).symm) rfl ⟨rfl, rfl, rfl, rfl, rfl, trivial⟩
      · gto 54
        exact w_lv (fin (Int32.ofInt 1) (bI_t (P := ¬ (c.ab (16 * l + k) = x ∧ c.be (16 * l + k) = y)) (fun z => h2 z.2)).symm) rfl ⟨rfl, rfl, rfl, rfl, rfl, trivial⟩
  · exfalso; zo
theorem r_copper (l k : Int32) (a b : Int64) : ax_run m_ML_copper [.ref 1, .int l, .int k, .long a, .long b] (ax_hp L xs c m o pool, u) (ax_out L xs m o pool u c (sp_copper c l k a b)) := by
  unfold sp_copper
  split
  · startR M_ML_copper
    gg
    cS (r_noLayer l)
    go <;> try pr
    cS (r_noCell k)
    go <;> pr
  · split
    · startR M_ML_copper
      gg
      cS (r_noLayer l)
      go <;> try pr
      cS (r_noCell k)
      go <;> pr
    · rename_i h1 h2
      obtain ⟨j, rfl, hj1, hj2⟩ := q_nat (x := l) (by omega)
      obtain ⟨v, rfl, hv1, hv2⟩ := q_nat (x := k) (by omega)
      rw [← hj1, ← hv1]
      startR M_ML_copper
      gg
      cS (r_noLayer (nI j))
      go <;> try pr
      cS (r_noCell (nI v))
      go <;> try pr
      cV (r_Ce_tell j v a.toInt32 b.toInt32 (by omega) (by omega))
      refine w_iret rfl rfl bI_nar ?_
      rfl
end CC
end
section
theorem up_fill {α : Type} (f : Nat → α) (v : α) (k : Nat) : (fun j => if j = k then v else if j < k then v else f j) = (fun j => if j < k + 1 then v else f j) := by
  funext j
  by_cases h1 : j = k
  · subst h1
    rw [if_pos rfl, if_pos (by omega)]
  · rw [if_neg h1]
    by_cases h2 : j < k
    · rw [if_pos h2, if_pos (by omega)]
    · rw [if_neg h2, if_neg (by omega)]
section CD
variable {L : Nat} {xs : Nat → Int32} {c : ax_St} {m : ax_Mo} {o : Nat → Int64} {pool : List (Option ax_C)} {u : Nat} {h : ax_H}
/-- filling an int array -/
theorem r_fill {a n : Nat} {f : Nat → Int32} (v : Int32) (H : List (Option ax_C)) (hn : n ≤ 100000) (ha : H[a]? = some (ax_aI n f)) : ax_run m_Ar_fill [.ref a, .int v] (H, u) (.inl none, (H.set a (ax_aI n (fun j => if j < n then v else f j)), u)) := by
  have lp : ∀ (d k : Nat), k + d = n → ax_wp ax_run M_Ar_fill (fun r' => r' = (.inl none, (H.set a (ax_aI n (fun j => if j < n then v else f j)), u))) 5 [(0, .ref a), (1, .int v), (2, .int (nI k)), (3, .int (nI n))] [] (H.set a (ax_aI n (fun j => if j < k then v else f j)), u) := by
    intro d
    induction d with
    | zero =>
      intro k hk
      have : k = n := by omega
      subst this
      go
      · refine w_vret rfl rfl rfl
    | succ d ih =>
      intro k hk
      go
      · refine w_ias (n := n) (f := fun j => if j < k then v else f j) rfl ?_ rfl (by omega) (by omega) ?_
        · have hl := (List.getElem?_eq_some_iff.mp ha).1
          exact List.getElem?_set_self hl
        · gto 5
          refine w_lv (l1 := [(0, .ref a), (1, .int v), (2, .int (nI (k + 1))), (3, .int (nI n))]) ?_ rfl ⟨rfl, rfl, rfl, rfl, trivial⟩
          have e : (H.set a (ax_aI n (fun j => if j < k then v else f j))).set a (some (.inl (0, n, .inl (upd (fun j => if j < k then v else f j) k v)))) = H.set a (ax_aI n (fun j => if j < k + 1 then v else f j)) := by
            rw [List.set_set]
            congr 1
            show ax_aI n _ = _
            congr 1
            exact up_fill f v k
          rw [e]
          exact ih (k + 1) (by omega)
  startR M_Ar_fill
  gg
  refine w_alen rfl ha (Or.inl (by decide)) ?_
  gto 5
  refine w_lv (l1 := [(0, .ref a), (1, .int v), (2, .int (nI 0)), (3, .int (nI n))]) ?_ rfl ⟨rfl, rfl, rfl, rfl, trivial⟩
  have h0 := lp n 0 (by omega)
  have e : H.set a (ax_aI n (fun j => if j < 0 then v else f j)) = H := by
    have e1 : (fun j => if j < 0 then v else f j) = f := by funext j; rw [if_neg (by omega)]
    rw [e1]
    obtain ⟨hl, hv⟩ := List.getElem?_eq_some_iff.mp ha
    rw [← hv]
    exact List.set_getElem_self hl
  rw [e] at h0
  exact h0
def sp_clear (c : ax_St) : ax_St := { c with tl := 0, pl := 0, of := fun j => if j < 4 then none else c.of j, told := 0, bn := 0, rn := 0, qn := 0, on := 0, ab := fun j => if j < 128 then 0 else c.ab j, be := fun j => if j < 128 then 1 else c.be j }
theorem r_Tx_forget : ax_run m_Tx_forget [.ref 2] (ax_hp L xs c m o pool, u) (.inl none, (ax_hp L xs { c with tl := 0, pl := 0 } m o pool, u)) := by
  startR M_Tx_forget
  gg
  exact w_vret rfl rfl rfl
theorem r_Bd_forget : ax_run m_Bd_forget [.ref 5] (ax_hp L xs c m o pool, u) (.inl none, (ax_hp L xs { c with bn := 0 } m o pool, u)) := by
  startR M_Bd_forget
  gg
  exact w_vret rfl rfl rfl
theorem r_Re_forget : ax_run m_Re_forget [.ref 11] (ax_hp L xs c m o pool, u) (.inl none, (ax_hp L xs { c with rn := 0 } m o pool, u)) := by
  startR M_Re_forget
  gg
  exact w_vret rfl rfl rfl
theorem r_Qu_forget : ax_run m_Qu_forget [.ref 14] (ax_hp L xs c m o pool, u) (.inl none, (ax_hp L xs { c with qn := 0 } m o pool, u)) := by
  startR M_Qu_forget
  gg
  exact w_vret rfl rfl rfl
theorem r_Or_forget : ax_run m_Or_forget [.ref 18] (ax_hp L xs c m o pool, u) (.inl none, (ax_hp L xs { c with on := 0 } m o pool, u)) := by
  startR M_Or_forget
  gg
  exact w_vret rfl rfl rfl
theorem r_Ce_forget : ax_run m_Ce_forget [.ref 20] (ax_hp L xs c m o pool, u) (.inl none, (ax_hp L xs { c with ab := fun j => if j < 128 then 0 else c.ab j, be := fun j => if j < 128 then 1 else c.be j } m o pool, u)) := by
  startR M_Ce_forget
  gg
  cS (r_fill (n := 128) (f := c.ab) (Int32.ofInt 0) (ax_hp L xs c m o pool) (by decide) rfl)
  gg
  cS (r_fill (n := 128) (f := c.be) (Int32.ofInt 1) _ (by decide) rfl)
  exact w_vret rfl rfl rfl
theorem r_clear : ax_run m_ML_clear [.ref 1] (ax_hp L xs c m o pool, u) (.inl none, (ax_hp L xs (sp_clear c) m o pool, u)) := by
  startR M_ML_clear
  gg
  cV r_Tx_forget
  have lp : ∀ (d k : Nat), k + d = 4 → ax_wp ax_run M_ML_clear (fun r' => r' = (.inl none, (ax_hp L xs (sp_clear c) m o pool, u))) 9 [(0, .ref 1), (1, .int (nI k))] [] (ax_hp L xs { c with tl := 0, pl := 0, of := fun j => if j < k then none else c.of j } m o pool, u) := by
    intro d
    induction d with
    | zero =>
      intro k hk
      have : k = 4 := by omega
      subst this
      go
      · cV (r_Bd_forget (c := { c with tl := 0, pl := 0, told := 0, of := fun j => if j < 4 then none else c.of j }))
        gg
        cV r_Re_forget
        gg
        cV r_Qu_forget
        gg
        cV r_Or_forget
        gg
        cV r_Ce_forget
        exact w_vret rfl rfl rfl
    | succ d ih =>
      intro k hk
      go
      · refine w_aasN rfl rfl (Or.inl rfl) rfl (by omega) (by decide) ?_
        gto 9
        refine w_lv (l1 := [(0, .ref 1), (1, .int (nI (k + 1)))]) ?_ rfl ⟨rfl, rfl, trivial⟩
        have e : va_up (fun j => if j < k then none else c.of j) k none = (fun j => if j < k + 1 then none else c.of j) := by
          exact up_fill c.of none k
        have := ih (k + 1) (by omega)
        rw [← e] at this
        exact this
  gto 9
  refine w_lv (l1 := [(0, .ref 1), (1, .int (nI 0))]) ?_ rfl ⟨rfl, rfl, trivial⟩
  have e : (fun j => if j < 0 then none else c.of j) = c.of := by funext j; rw [if_neg (by omega)]
  have := lp 4 0 (by omega)
  rw [e] at this
  exact this
end CD
end
section
/-! the balance, class -/
theorem q_bLx (a b : Nat) (ha : a ≤ 10) (hb1 : 1 ≤ b) (hb : b ≤ 10) : a * (2520 / b) ≤ 25200 := by
  have : 2520 / b ≤ 2520 := Nat.div_le_self _ _
  exact Nat.le_trans (Nat.mul_le_mul ha this) (by decide)
/-- the copper of a cell, in 2520ths -/
def ax_un (f g : Nat → Int32) (i : Nat) : Nat := (f i).toInt.toNat * (2520 / (g i).toInt.toNat)
def ax_sm (f g : Nat → Int32) (i : Nat) : Nat → Nat
  | 0 => 0
  | n + 1 => ax_sm f g i n + ax_un f g (i + n)
structure CellOk (c : ax_St) : Prop where
  a : ∀ i, i < 128 → 0 ≤ (c.ab i).toInt ∧ (c.ab i).toInt ≤ 10
  b : ∀ i, i < 128 → 1 ≤ (c.be i).toInt ∧ (c.be i).toInt ≤ 10
theorem ax_un_b {c : ax_St} (h : CellOk c) {i : Nat} (hi : i < 128) : ax_un c.ab c.be i ≤ 25200 := by
  have h1 := h.a i hi
  have h2 := h.b i hi
  exact q_bLx _ _ (by omega) (by omega) (by omega)
theorem ax_sm_b {c : ax_St} (h : CellOk c) {i : Nat} : ∀ n, i + n ≤ 128 → ax_sm c.ab c.be i n ≤ 25200 * n := by
  intro n
  induction n with
  | zero => exact fun _ => Nat.zero_le _
  | succ n ih =>
    intro hn
    have h1 := ih (by omega)
    have h2 := ax_un_b h (i := i + n) (by omega)
    show ax_sm c.ab c.be i n + ax_un c.ab c.be (i + n) ≤ _
    omega
theorem q_nL {x : Int64} {n : Nat} (h : x.toInt = n) : x = Int64.ofInt n := q_toL h
theorem q_divI {a b : Int32} {m n : Nat} (ha : a.toInt = m) (hb : b.toInt = n) (hn : 0 < n) (hm : m < 2147483648) : (a / b).toInt = ((m / n : Nat) : Int) := by
  rw [Int32.toInt_div, ha, hb]
  have h1 : (m : Int).tdiv (n : Int) = ((m / n : Nat) : Int) := rfl
  rw [h1, q_bm32]
  have h2 : m / n ≤ m := Nat.div_le_self _ _
  generalize m / n = z at *
  omega
theorem q_divL {a b : Int64} {m n : Nat} (ha : a.toInt = m) (hb : b.toInt = n) (hm : m < 9223372036854775808) : (a / b).toInt = ((m / n : Nat) : Int) := by
  rw [Int64.toInt_div, ha, hb]
  have h1 : (m : Int).tdiv (n : Int) = ((m / n : Nat) : Int) := rfl
  rw [h1, q_bm64]
  have h2 : m / n ≤ m := Nat.div_le_self _ _
  generalize m / n = z at *
  omega
theorem q_modL {a b : Int64} {m n : Nat} (ha : a.toInt = m) (hb : b.toInt = n) (hm : m < 9223372036854775808) : (a - a / b * b).toInt = ((m % n : Nat) : Int) := by
  rw [q_subL, q_mulL, q_divL ha hb hm, ha, hb]
  have h1 : m / n * n ≤ m := Nat.div_mul_le_self _ _
  have h2 : m % n + n * (m / n) = m := Nat.mod_add_div m n
  have h3 : ((m / n : Nat) : Int) * (n : Int) = ((m / n * n : Nat) : Int) := (Int.natCast_mul _ _).symm
  rw [h3]
  rw [Nat.mul_comm] at h2
  generalize m / n * n = z at *
  omega
theorem q_mulN {a b : Int64} {m n : Nat} (ha : a.toInt = m) (hb : b.toInt = n) (h : m * n < 9223372036854775808) : (a * b).toInt = ((m * n : Nat) : Int) := by
  rw [q_mulL, ha, hb]
  have h3 : (m : Int) * (n : Int) = ((m * n : Nat) : Int) := (Int.natCast_mul _ _).symm
  rw [h3]
  omega
theorem q_addN {a b : Int64} {m n : Nat} (ha : a.toInt = m) (hb : b.toInt = n) (h : m + n < 9223372036854775808) : (a + b).toInt = ((m + n : Nat) : Int) := by
  rw [q_addL, ha, hb]
  omega
section CJ
variable {L : Nat} {xs : Nat → Int32} {c : ax_St} {m : ax_Mo} {o : Nat → Int64} {pool : List (Option ax_C)} {u : Nat} {h : ax_H}
theorem r_units (hc : CellOk c) (l k : Nat) (hl : l < 8) (hk : k < 16) : ax_run m_Ce_units [.ref 20, .int (nI l), .int (nI k)] (ax_hp L xs c m o pool, u) (.inl (some (.long (Int64.ofInt (ax_un c.ab c.be (16 * l + k) : Nat)))), (ax_hp L xs c m o pool, u)) := by
  have hA := hc.a (16 * l + k) (by omega)
  have hB := hc.b (16 * l + k) (by omega)
  startR M_Ce_units
  gg
  cS (r_noLayer (nI l))
  refine w_if1 rfl (fun h5 => absurd (c_ne0.mp h5) (fun z => z ⟨by rw [q_nI' (by omega)]; omega, by rw [q_nI' (by omega)]; omega⟩)) (fun _ => ?_)
  gg
  cS (r_noCell (nI k))
  refine w_if1 rfl (fun _ => ?_) (fun h5 => absurd (c_eq0.mpr (fun z => z ⟨by rw [q_nI' (by omega)]; omega, by rw [q_nI' (by omega)]; omega⟩)) h5)
  gto 22
  refine w_eqI (y := nI (16 * l + k)) (by ix) ?_
  gg
  refine w_ia rfl rfl rfl (by omega) (by decide) ?_
  gg
  refine w_if2 rfl (fun _ => ?_) (fun h5 => absurd (Int32.le_iff_toInt_le.mpr (by rw [q_ofI]; omega)) h5)
  gg
  refine w_ia rfl rfl rfl (by omega) (by decide) ?_
  gg
  refine w_idiv rfl (fun z => ?_) ?_
  · rw [z] at hB
    exact absurd hB.1 (by decide)
  gg
  refine w_lret rfl rfl ?_
  congr 4
  apply q_toL
  have e1 : (c.ab (16 * l + k)).toInt64.toInt = (((c.ab (16 * l + k)).toInt.toNat : Nat) : Int) := by rw [q_i2l]; omega
  have e2 : ((Int16.ofInt 2520).toInt32 / c.be (16 * l + k)).toInt64.toInt = ((2520 / (c.be (16 * l + k)).toInt.toNat : Nat) : Int) := by
    rw [q_i2l]
    exact q_divI (by rw [q_b16]; rfl) (by omega) (by omega) (by decide)
  exact q_mulN e1 e2 (Nat.lt_of_le_of_lt (ax_un_b hc (i := 16 * l + k) (by omega)) (by decide))
/-- what the cell has above the mean -/
def ax_abv (f g : Nat → Int32) (l k : Nat) : Int := 16 * (ax_un f g (16 * l + k) : Int) - (ax_sm f g (16 * l) 16 : Int)
theorem r_aboveMean (hc : CellOk c) (l k : Nat) (hl : l < 8) (hk : k < 16) : ax_run m_Ce_aboveMean [.ref 20, .int (nI l), .int (nI k)] (ax_hp L xs c m o pool, u) (.inl (some (.long (Int64.ofInt (ax_abv c.ab c.be l k)))), (ax_hp L xs c m o pool, u)) := by
  have lp : ∀ (d n : Nat), n + d = 16 → ax_wp ax_run M_Ce_aboveMean (fun r' => r' = (.inl (some (.long (Int64.ofInt (ax_abv c.ab c.be l k)))), (ax_hp L xs c m o pool, u))) 5 [(0, .ref 20), (1, .int (nI l)), (2, .int (nI k)), (3, .long (Int64.ofInt (ax_sm c.ab c.be (16 * l) n : Nat))), (5, .int (nI n))] [] (ax_hp L xs c m o pool, u) := by
    intro d
    induction d with
    | zero =>
      intro n hn
      have : n = 16 := by omega
      subst this
      gg
      refine w_if2 rfl (fun _ => ?_) (fun h5 => absurd ((cn_ge (a := 16) (b := 16) (by omega) (by omega)).mpr (by omega)) h5)
      gg
      cV (r_units hc l k hl hk)
      gg
      refine w_lret rfl rfl ?_
      congr 4
      apply q_toL
      have h1 := ax_un_b hc (i := 16 * l + k) (by omega)
      have h2 := ax_sm_b hc (i := 16 * l) 16 (by omega)
      have e1 : ((16 : Int64) * Int64.ofInt ((ax_un c.ab c.be (16 * l + k) : Nat) : Int)).toInt = ((16 * ax_un c.ab c.be (16 * l + k) : Nat) : Int) := q_mulN (m := 16) rfl (q_ofIL (by omega) (by omega)) (by omega)
      rw [q_subL, q_ofIL (by omega) (by omega)]
      show (((16 : Int64) * Int64.ofInt ((ax_un c.ab c.be (16 * l + k) : Nat) : Int)).toInt - _ + _) % _ - _ = _
      rw [e1]
      unfold ax_abv
      omega
    | succ d ih =>
      intro n hn
      have h1 := ax_un_b hc (i := 16 * l + n) (by omega)
      have h2 := ax_sm_b hc (i := 16 * l) n (by omega)
      gg
      refine w_if2 rfl (fun h5 => absurd ((cn_ge (a := n) (b := 16) (by omega) (by omega)).mp h5) (by omega)) (fun _ => ?_)
      gg
      cV (r_units hc l n hl (by omega))
      gto 5
      refine w_lv (ih (n + 1) (by omega)) rfl ⟨rfl, rfl, rfl, ?_, rfl, trivial⟩
      have e1 : Int64.ofInt ((ax_sm c.ab c.be (16 * l) n : Nat) : Int) + Int64.ofInt ((ax_un c.ab c.be (16 * l + n) : Nat) : Int) = Int64.ofInt ((ax_sm c.ab c.be (16 * l) (n + 1) : Nat) : Int) := by
        apply q_toL
        exact q_addN (q_ofIL (by omega) (by omega)) (q_ofIL (by omega) (by omega)) (by omega)
      rw [← e1]
      rfl
  startR M_Ce_aboveMean
  gto 5
  exact w_lv (lp 16 0 (by omega)) rfl ⟨rfl, rfl, rfl, rfl, rfl, trivial⟩
end CJ
end
section
theorem q_half {R r : Nat} (h1 : 0 < r) (h2 : r < R) : 2 * (R % r) < R := by
  have h3 := Nat.mod_lt R h1
  have h4 := Nat.mod_add_div R r
  have h5 : 1 ≤ R / r := Nat.div_pos (Nat.le_of_lt h2) h1
  have h6 : r * 1 ≤ r * (R / r) := Nat.mul_le_mul (Nat.le_refl _) h5
  omega
theorem q_gcd (G R : Nat) : Nat.gcd R (G % R) = Nat.gcd G R := by
  rw [Nat.gcd_comm G R, Nat.gcd_rec R G, Nat.gcd_comm]
section CK
variable {L : Nat} {xs : Nat → Int32} {c : ax_St} {m : ax_Mo} {o : Nat → Int64} {pool : List (Option ax_C)} {u : Nat} {h : ax_H}
theorem r_gcd (A : Nat) (hA : A < 9223372036854775808) : ax_run m_ML_commonDivisor [.long (Int64.ofInt (A : Int)), .long (Int64.ofInt (40320 : Nat))] h (.inl (some (.long (Int64.ofInt (Nat.gcd A 40320 : Nat)))), h) := by
  have fin : ∀ (G : Nat) (lv : ax_L), 1 ≤ G → G < 9223372036854775808 → G = Nat.gcd A 40320 → ax_wp ax_run M_ML_commonDivisor (fun r' => r' = (.inl (some (.long (Int64.ofInt (Nat.gcd A 40320 : Nat)))), h)) 44 [(4, .long (Int64.ofInt (G : Int)))] [] h := by
    intro G lv h1 h2 h3
    gg
    cS (r_maxL (Int64.ofInt (G : Int)) (Int64.ofNat 1))
    refine w_lret rfl rfl ?_
    rw [if_neg (by rw [q_ofIL (by omega) (by omega), q_ofNL]; omega), h3]
  have ex : ∀ (G n : Nat), n < 100 → 1 ≤ G → G < 9223372036854775808 → G = Nat.gcd A 40320 → ax_wp ax_run M_ML_commonDivisor (fun r' => r' = (.inl (some (.long (Int64.ofInt (Nat.gcd A 40320 : Nat)))), h)) 9 [(4, .long (Int64.ofInt (G : Int))), (6, .long (Int64.ofInt (0 : Nat))), (8, .int (nI n))] [] h := by
    intro G n hn h1 h2 h3
    gg
    refine w_if2 rfl (fun h5 => absurd ((cn_ge (a := n) (b := 100) (by omega) (by omega)).mp h5) (by omega)) (fun _ => ?_)
    gg
    refine w_if1 rfl (fun _ => ?_) (fun h5 => absurd (c_Leq.mpr rfl) h5)
    exact w_lv (fin G [] h1 h2 h3) rfl ⟨rfl, trivial⟩
  have st : ∀ (G R n : Nat), n < 100 → 0 < R → G < 9223372036854775808 → R < 9223372036854775808 → ax_wp ax_run M_ML_commonDivisor (fun r' => r' = (.inl (some (.long (Int64.ofInt (Nat.gcd A 40320 : Nat)))), h)) 9 [(4, .long (Int64.ofInt (R : Int))), (6, .long (Int64.ofInt (G % R : Nat))), (8, .int (nI (n + 1)))] [] h → ax_wp ax_run M_ML_commonDivisor (fun r' => r' = (.inl (some (.long (Int64.ofInt (Nat.gcd A 40320 : Nat)))), h)) 9 [(4, .long (Int64.ofInt (G : Int))), (6, .long (Int64.ofInt (R : Int))), (8, .int (nI n))] [] h := by
    intro G R n hn hR hG1 hR1 k
    have eR : (Int64.ofInt (R : Int)).toInt = R := q_ofIL (by omega) (by omega)
    have eG : (Int64.ofInt (G : Int)).toInt = G := q_ofIL (by omega) (by omega)
    have em : Int64.ofInt (G : Int) - Int64.ofInt (G : Int) / Int64.ofInt (R : Int) * Int64.ofInt (R : Int) = Int64.ofInt (G % R : Nat) := q_toL (q_modL eG eR hG1)
    gg
    refine w_if2 rfl (fun h5 => absurd ((cn_ge (a := n) (b := 100) (by omega) (by omega)).mp h5) (by omega)) (fun _ => ?_)
    gg
    refine w_if1 rfl (fun h5 => ?_) (fun _ => ?_)
    · have := c_Leq.mp h5
      rw [eR, q_ofNL] at this
      omega
    · gg
      refine w_lrem rfl (fun z => ?_) ?_
      · have := congrArg Int64.toInt z
        rw [eR] at this
        have h0 : ((0 : Int64)).toInt = 0 := rfl
        omega
      rw [em]
      gto 9
      exact w_lv k rfl ⟨rfl, rfl, rfl, trivial⟩
  have lp : ∀ (k G R n : Nat), R < 2 ^ k → n + 2 * k ≤ 98 → 1 ≤ G → G < 9223372036854775808 → R < 9223372036854775808 → Nat.gcd G R = Nat.gcd A 40320 → ax_wp ax_run M_ML_commonDivisor (fun r' => r' = (.inl (some (.long (Int64.ofInt (Nat.gcd A 40320 : Nat)))), h)) 9 [(4, .long (Int64.ofInt (G : Int))), (6, .long (Int64.ofInt (R : Int))), (8, .int (nI n))] [] h := by
    intro k
    induction k with
    | zero =>
      intro G R n h1 h2 h3 h4 h5 h6
      have hR : R = 0 := by omega
      subst hR
      exact ex G n (by omega) h3 h4 (by rw [← h6]; exact (Nat.gcd_zero_right G).symm)
    | succ k ih =>
      intro G R n h1 h2 h3 h4 h5 h6
      by_cases hR : R = 0
      · subst hR
        exact ex G n (by omega) h3 h4 (by rw [← h6]; exact (Nat.gcd_zero_right G).symm)
      · have hR0 : 0 < R := by omega
        have hm := Nat.mod_lt G hR0
        refine st G R n (by omega) hR0 h4 h5 ?_
        by_cases hr : G % R = 0
        · rw [hr]
          refine ex R (n + 1) (by omega) hR0 h5 ?_
          rw [← h6, ← q_gcd, hr, Nat.gcd_zero_right]
        · have hr0 : 0 < G % R := by omega
          have hh := q_half hr0 hm
          have hm2 := Nat.mod_lt R hr0
          refine st R (G % R) (n + 1) (by omega) hr0 h5 (by omega) ?_
          refine ih (G % R) (R % (G % R)) (n + 2) ?_ (by omega) hr0 (by omega) (by omega) ?_
          · rw [Nat.pow_succ] at h1
            omega
          · rw [q_gcd, q_gcd, h6]
  startR M_ML_commonDivisor
  gto 9
  by_cases hA0 : A = 0
  · subst hA0
    refine w_lv (st 0 40320 0 (by decide) (by decide) (by decide) (by decide) ?_) rfl ⟨rfl, rfl, rfl, trivial⟩
    exact ex 40320 1 (by decide) (by decide) (by decide) (by decide)
  · exact w_lv (lp 16 A 40320 0 (by decide) (by decide) (by omega) hA (by decide) rfl) rfl ⟨rfl, rfl, rfl, trivial⟩
theorem r_absL (z : Int) (h1 : -1000000000 ≤ z) (h2 : z ≤ 1000000000) : ax_run m_Ma_absL [.long (Int64.ofInt z)] h (.inl (some (.long (Int64.ofInt (z.natAbs : Nat)))), h) := by
  have e : (Int64.ofInt z).toInt = z := q_ofIL (by omega) (by omega)
  startR M_Ma_absL
  gg
  refine w_if1 rfl (fun h5 => ?_) (fun h5 => ?_)
  · have h6 := c_Lge.mp h5
    rw [e, q_ofNL] at h6
    gg
    refine w_lret rfl rfl ?_
    congr 4
    apply q_toL
    rw [e]
    omega
  · have h6 : ¬ (Int64.ofNat 0).toInt ≤ (Int64.ofInt z).toInt := fun w => h5 (c_Lge.mpr w)
    rw [e, q_ofNL] at h6
    gg
    refine w_lret rfl rfl ?_
    congr 4
    apply q_toL
    rw [q_negL, e]
    omega
theorem ax_abv_b (hc : CellOk c) (l k : Nat) (hl : l < 8) (hk : k < 16) : -1000000 ≤ ax_abv c.ab c.be l k ∧ ax_abv c.ab c.be l k ≤ 1000000 := by
  have h1 := ax_un_b hc (i := 16 * l + k) (by omega)
  have h2 := ax_sm_b hc (i := 16 * l) 16 (by omega)
  unfold ax_abv
  omega
/-- the two parts of the balance -/
def ax_bal (z : Int) (p : Int32) : Int64 := (if p = 0 then Int64.ofInt z else Int64.ofInt (40320 : Nat)) / Int64.ofInt (Nat.gcd z.natAbs 40320 : Nat)
def sp_balance (c : ax_St) (l k p : Int32) : ax_SR := if ¬ (0 ≤ l.toInt ∧ l.toInt < 8 ∧ 0 ≤ k.toInt ∧ k.toInt < 16 ∧ 0 ≤ p.toInt ∧ p.toInt ≤ 1) then .inr 0 else .inl (.long (ax_bal (ax_abv c.ab c.be l.toInt.toNat k.toInt.toNat) p), c)
theorem r_balance (hc : CellOk c) (l k p : Int32) : ax_run m_ML_balance [.ref 1, .int l, .int k, .int p] (ax_hp L xs c m o pool, u) (ax_out L xs m o pool u c (sp_balance c l k p)) := by
  unfold sp_balance
  split
  · startR M_ML_balance
    gg
    cS (r_noLayer l)
    go <;> try pr
    cS (r_noCell k)
    go <;> pr
  · rename_i h0
    have h1 := Decidable.not_not.mp h0
    obtain ⟨n, rfl, hn1, hn2⟩ := q_nat (x := l) (by omega)
    obtain ⟨i, rfl, hi1, hi2⟩ := q_nat (x := k) (by omega)
    have hnn : (nI n).toInt.toNat = n := by rw [← hn1]; rfl
    have hii : (nI i).toInt.toNat = i := by rw [← hi1]; rfl
    rw [hnn, hii]
    have hn8 : n < 8 := by omega
    have hi16 : i < 16 := by omega
    clear hnn hii
    have hz := ax_abv_b hc n i hn8 hi16
    have hg : 1 ≤ Nat.gcd (ax_abv c.ab c.be n i).natAbs 40320 ∧ Nat.gcd (ax_abv c.ab c.be n i).natAbs 40320 ≤ 40320 := ⟨Nat.gcd_pos_of_pos_right _ (by decide), Nat.gcd_le_right _ (by decide)⟩
    have hne : ¬ Int64.ofInt (Nat.gcd (ax_abv c.ab c.be n i).natAbs 40320 : Nat) = 0 := by
      intro z
      have := congrArg Int64.toInt z
      rw [q_ofIL (by omega) (by omega)] at this
      have h0 : ((0 : Int64)).toInt = 0 := rfl
      omega
    startR M_ML_balance
    gg
    cS (r_noLayer (nI n))
    refine w_if1 rfl (fun h5 => absurd (c_ne0.mp h5) (fun z => z ⟨h1.1, h1.2.1⟩)) (fun _ => ?_)
    gg
    cS (r_noCell (nI i))
    refine w_if1 rfl (fun h5 => absurd (c_ne0.mp h5) (fun z => z ⟨h1.2.2.1, h1.2.2.2.1⟩)) (fun _ => ?_)
    gg
    refine w_if1 rfl (fun h5 => absurd (c_lt0.mp h5) (by omega)) (fun _ => ?_)
    gg
    refine w_if2 rfl (fun _ => ?_) (fun h5 => absurd (Int32.le_iff_toInt_le.mpr (by rw [q_ofI]; omega)) h5)
    gg
    cV (r_aboveMean hc n i hn8 hi16)
    gg
    cS (r_absL (ax_abv c.ab c.be n i) (by omega) (by omega))
    gg
    cS (r_gcd (ax_abv c.ab c.be n i).natAbs (by omega))
    gg
    refine w_if1 rfl (fun h5 => ?_) (fun h5 => ?_)
    · have h6 : ¬ p = 0 := h5
      gg
      refine w_ldiv rfl hne ?_
      refine w_lret rfl rfl ?_
      unfold ax_bal
      rw [if_neg h6]
      rfl
    · have h6 : p = 0 := Decidable.not_not.mp h5
      gg
      refine w_ldiv rfl hne ?_
      refine w_lret rfl rfl ?_
      unfold ax_bal
      rw [if_pos h6]
      rfl
end CK
end
section
/-! the reference's methods that look at nobody's offer -/
macro "pm" : tactic => `(tactic| first | (ir; rfl) | (refine w_lret rfl rfl ?_; rfl) | (exfalso; zo))
section MA
variable {L : Nat} {xs : Nat → Int32} {c : ax_St} {m : ax_Mo} {o : Nat → Int64} {pool : List (Option ax_C)} {u : Nat} {h : ax_H}
def ax_mout (L : Nat) (xs : Nat → Int32) (c : ax_St) (o : Nat → Int64) (pool : List (Option ax_C)) (u : Nat) (q : Value × ax_Mo) : ax_R := (.inl (some q.1), (ax_hp L xs c q.2 o pool, u))
theorem n_isLayer (x : Int32) : ax_run m_Mo_isLayer [.int x] h (.inl (some (.int (bI (0 ≤ x.toInt ∧ x.toInt < 8)))), h) := by
  startR M_Mo_isLayer
  go <;> ir <;> bt
theorem n_isPlace (x : Int64) : ax_run m_Mo_isPlace [.long x] h (.inl (some (.int (bI (-1000000 ≤ x.toInt ∧ x.toInt ≤ 1000000)))), h) := by
  startR M_Mo_isPlace
  go <;> ir <;> bt
theorem n_isQuantity (x : Int64) : ax_run m_Mo_isQuantity [.long x] h (.inl (some (.int (bI (1 ≤ x.toInt ∧ x.toInt ≤ 1000000)))), h) := by
  startR M_Mo_isQuantity
  go <;> ir <;> bt
theorem n_isCell (x y : Int32) : ax_run m_Mo_isCell [.int x, .int y] h (.inl (some (.int (bI (0 ≤ x.toInt ∧ x.toInt < 8 ∧ 0 ≤ y.toInt ∧ y.toInt < 16)))), h) := by
  startR M_Mo_isCell
  gg
  cS (n_isLayer x)
  go <;> ir <;> bt
theorem n_thrown : ax_run m_Mo_thrown [.ref 23] (ax_hp L xs c m o pool, u) (.inl (some (.int m.thrown)), (ax_hp L xs c m o pool, u)) := by
  startR M_Mo_thrown
  gg
  ir; rfl
def mp_empty (m : ax_Mo) : ax_Mo := { m with units := 0, makers := 0, things := 0, remarks := 0, quotes := 0, orders := 0, above := fun j => if j < 128 then 0 else m.above j, below := fun j => if j < 128 then 1 else m.below j }
theorem n_empty : ax_run m_Mo_empty [.ref 23] (ax_hp L xs c m o pool, u) (.inl none, (ax_hp L xs c (mp_empty m) o pool, u)) := by
  have lp : ∀ (d k : Nat), k + d = 128 → ax_wp ax_run M_Mo_empty (fun r' => r' = (.inl none, (ax_hp L xs c (mp_empty m) o pool, u))) 32 [(0, .ref 23), (1, .int (nI k))] [] (ax_hp L xs c { m with units := 0, makers := 0, things := 0, remarks := 0, quotes := 0, orders := 0, above := fun j => if j < k then 0 else m.above j, below := fun j => if j < k then 1 else m.below j } o pool, u) := by
    intro d
    induction d with
    | zero =>
      intro k hk
      have : k = 128 := by omega
      subst this
      go
      exact w_vret rfl rfl rfl
    | succ d ih =>
      intro k hk
      go
      · refine w_las rfl rfl rfl (by omega) (by decide) ?_
        gg
        refine w_las rfl rfl rfl (by omega) (by decide) ?_
        gto 32
        refine w_lv (l1 := [(0, .ref 23), (1, .int (nI (k + 1)))]) ?_ rfl ⟨rfl, rfl, trivial⟩
        have e1 : vp_updL (fun j => if j < k then 0 else m.above j) k (Int64.ofNat 0) = (fun j => if j < k + 1 then 0 else m.above j) := up_fill m.above 0 k
        have e2 : vp_updL (fun j => if j < k then 1 else m.below j) k (Int64.ofNat 1) = (fun j => if j < k + 1 then 1 else m.below j) := up_fill m.below 1 k
        have := ih (k + 1) (by omega)
        rw [← e1, ← e2] at this
        exact this
  startR M_Mo_empty
  gto 32
  refine w_lv (l1 := [(0, .ref 23), (1, .int (nI 0))]) ?_ rfl ⟨rfl, rfl, trivial⟩
  have e1 : (fun j => if j < 0 then (0 : Int64) else m.above j) = m.above := by funext j; rw [if_neg (by omega)]
  have e2 : (fun j => if j < 0 then (1 : Int64) else m.below j) = m.below := by funext j; rw [if_neg (by omega)]
  have := lp 128 0 (by omega)
  rw [e1, e2] at this
  exact this
theorem n_clear : ax_run m_Mo_clear [.ref 23] (ax_hp L xs c m o pool, u) (.inl none, (ax_hp L xs c (mp_empty { m with thrown := 0 }) o pool, u)) := by
  startR M_Mo_clear
  gg
  cV (n_empty (m := { m with thrown := 0 }))
  exact w_vret rfl rfl rfl
def mp_unit (m : ax_Mo) (x : Int32) : Value × ax_Mo := if x.toInt < 32 ∨ 126 < x.toInt ∨ m.units = 400 then (.int 0, { m with thrown := 0 }) else (.int 1, { m with thrown := 0, text := upd m.text m.units x, units := m.units + 1 })
theorem n_unit (x : Int32) (hn : m.units ≤ 400) : ax_run m_Mo_unit [.ref 23, .int x] (ax_hp L xs c m o pool, u) (ax_mout L xs c o pool u (mp_unit m x)) := by
  unfold mp_unit
  split
  · startR M_Mo_unit
    go <;> pm
  · startR M_Mo_unit
    go <;> try pm
    refine w_ias rfl rfl rfl (by omega) (by decide) ?_
    go <;> pm
def mp_thing (m : ax_Mo) (k : Int32) (v : Int64) (y : Int32) : Value × ax_Mo :=
  if ¬ (0 ≤ k.toInt ∧ k.toInt < 6 ∧ 0 ≤ y.toInt ∧ y.toInt < 8) then (.int 0, { m with thrown := 1 }) else if ¬ (0 ≤ v.toInt ∧ v.toInt ≤ 1000000) then (.int 0, { m with thrown := 2 }) else if m.things = 60 then (.int (-1), { m with thrown := 0 })
  else (.int (nI m.things), { m with thrown := 0, kinds := upd m.kinds m.things k, values := vp_updL m.values m.things v, layers := upd m.layers m.things y, x := vp_updL m.x m.things 0, y := vp_updL m.y m.things 0, things := m.things + 1 })
theorem n_thing (k : Int32) (v : Int64) (y : Int32) (hn : m.things ≤ 60) : ax_run m_Mo_thing [.ref 23, .int k, .long v, .int y] (ax_hp L xs c m o pool, u) (ax_mout L xs c o pool u (mp_thing m k v y)) := by
  unfold mp_thing
  split
  · startR M_Mo_thing
    go <;> try pm
    cS (n_isLayer y)
    go <;> pm
  · split
    · startR M_Mo_thing
      go <;> try pm
      cS (n_isLayer y)
      go <;> pm
    · split
      · startR M_Mo_thing
        go <;> try pm
        cS (n_isLayer y)
        go <;> pm
      · startR M_Mo_thing
        go <;> try pm
        cS (n_isLayer y)
        go <;> try pm
        refine w_ias rfl rfl rfl (by omega) (by decide) ?_
        gg
        refine w_las rfl rfl rfl (by omega) (by decide) ?_
        gg
        refine w_ias rfl rfl rfl (by omega) (by decide) ?_
        gg
        refine w_las rfl rfl rfl (by omega) (by decide) ?_
        gg
        refine w_las rfl rfl rfl (by omega) (by decide) ?_
        go <;> pm
def mp_at (m : ax_Mo) (t : Int32) (px py : Int64) : Value × ax_Mo :=
  if ¬ (0 ≤ t.toInt ∧ t.toInt < m.things) then (.int 0, { m with thrown := 1 }) else if ¬ (-1000000 ≤ px.toInt ∧ px.toInt ≤ 1000000 ∧ -1000000 ≤ py.toInt ∧ py.toInt ≤ 1000000) then (.int 0, { m with thrown := 2 })
  else if m.x t.toInt.toNat = px ∧ m.y t.toInt.toNat = py then (.int 0, { m with thrown := 0 }) else (.int 1, { m with thrown := 0, x := vp_updL m.x t.toInt.toNat px, y := vp_updL m.y t.toInt.toNat py })
theorem n_at (t : Int32) (px py : Int64) (hn : m.things ≤ 60) : ax_run m_Mo_at [.ref 23, .int t, .long px, .long py] (ax_hp L xs c m o pool, u) (ax_mout L xs c o pool u (mp_at m t px py)) := by
  unfold mp_at
  split
  · startR M_Mo_at
    go <;> pm
  · rename_i h1
    obtain ⟨n, rfl, hn1, hn2⟩ := q_nat (x := t) (by omega)
    rw [← hn1]
    show ax_run _ _ _ (ax_mout L xs c o pool u (if _ then _ else if m.x n = px ∧ m.y n = py then _ else (_, { m with thrown := 0, x := vp_updL m.x n px, y := vp_updL m.y n py })))
    split
    · startR M_Mo_at
      go <;> try pm
      cS (n_isPlace px)
      go <;> try pm
      cS (n_isPlace py)
      go <;> pm
    · rename_i h2
      startR M_Mo_at
      go <;> try pm
      cS (n_isPlace px)
      go <;> try pm
      cS (n_isPlace py)
      go <;> try pm
      refine w_la rfl rfl rfl (by omega) (by decide) ?_
      gg
      refine w_if1 rfl (fun h3 => ?_) (fun h3 => ?_)
      · have h4 : ¬ m.x n = px := fun z => h3 ((lg_cmp_eq _ _).mpr z)
        rw [if_neg (fun z => h4 z.1)]
        gg
        refine w_las rfl rfl rfl (by omega) (by decide) ?_
        gg
        refine w_las rfl rfl rfl (by omega) (by decide) ?_
        gg
        ir; rfl
      · have h4 : m.x n = px := (lg_cmp_eq _ _).mp (Decidable.not_not.mp h3)
        gg
        refine w_la rfl rfl rfl (by omega) (by decide) ?_
        gg
        refine w_if1 rfl (fun h5 => ?_) (fun h5 => ?_)
        · have h6 : ¬ m.y n = py := fun z => h5 ((lg_cmp_eq _ _).mpr z)
          rw [if_neg (fun z => h6 z.2)]
          gg
          refine w_las rfl rfl rfl (by omega) (by decide) ?_
          gg
          refine w_las rfl rfl rfl (by omega) (by decide) ?_
          gg
          ir; rfl
        · have h6 : m.y n = py := (lg_cmp_eq _ _).mp (Decidable.not_not.mp h5)
          rw [if_pos ⟨h4, h6⟩]
          gg
          ir; rfl
end MA
end
section
section MB
variable {L : Nat} {xs : Nat → Int32} {c : ax_St} {m : ax_Mo} {o : Nat → Int64} {pool : List (Option ax_C)} {u : Nat} {h : ax_H}
def mp_rmk (m : ax_Mo) (k w : Nat) : Int32 := match w with
  | 0 => m.remarkOf k
  | 1 => m.kinds (m.remarkOf k).toInt.toNat
  | 2 => (m.excess k).toInt32
  | 3 => m.layers (m.remarkOf k).toInt.toNat
  | 4 => (m.x (m.remarkOf k).toInt.toNat).toInt32
  | _ => (m.y (m.remarkOf k).toInt.toNat).toInt32
def mp_remark (m : ax_Mo) (k w : Int32) : Value × ax_Mo :=
  if ¬ (0 ≤ w.toInt ∧ w.toInt < 6) then (.int 0, { m with thrown := 1 }) else if ¬ (0 ≤ k.toInt ∧ k.toInt < m.remarks) then (.int (-1), { m with thrown := 0 }) else (.int (mp_rmk m k.toInt.toNat w.toInt.toNat), { m with thrown := 0 })
theorem n_remark (k w : Int32) (hn : m.remarks ≤ 60) (hb : m.things ≤ 60) (hr : ∀ k, k < m.remarks → ∃ t, t < m.things ∧ m.remarkOf k = nI t) : ax_run m_Mo_remark [.ref 23, .int k, .int w] (ax_hp L xs c m o pool, u) (ax_mout L xs c o pool u (mp_remark m k w)) := by
  unfold mp_remark
  split
  · startR M_Mo_remark
    go <;> pm
  · split
    · startR M_Mo_remark
      go <;> pm
    · rename_i h1 h2
      obtain ⟨j, rfl, hj1, hj2⟩ := q_nat (x := k) (by omega)
      obtain ⟨v, rfl, hv1, hv2⟩ := q_nat (x := w) (by omega)
      obtain ⟨t, ht1, ht2⟩ := hr j (by omega)
      have htt : (nI t).toInt.toNat = t := by rw [nI_toInt (by omega)]; rfl
      rw [← hj1, ← hv1]
      startR M_Mo_remark
      go <;> try pm
      refine w_ia rfl rfl rfl (by omega) (by decide) ?_
      rw [ht2]
      gg
      have hv : v = 0 ∨ v = 1 ∨ v = 2 ∨ v = 3 ∨ v = 4 ∨ v = 5 := by omega
      rcases hv with rfl | rfl | rfl | rfl | rfl | rfl
      · refine w_tsw rfl rfl ?_
        gg
        ir
        show _ = ax_mout _ _ _ _ _ _ (Value.int (m.remarkOf j), _)
        rw [ht2]
        try rfl
      · refine w_tsw rfl rfl ?_
        gg
        refine w_ia rfl rfl rfl (by omega) (by decide) ?_
        ir
        show _ = ax_mout _ _ _ _ _ _ (Value.int (m.kinds (m.remarkOf j).toInt.toNat), _)
        rw [ht2, htt]
        try rfl
      · refine w_tsw rfl rfl ?_
        gg
        refine w_la rfl rfl rfl (by omega) (by decide) ?_
        gg
        ir
        rfl
      · refine w_tsw rfl rfl ?_
        gg
        refine w_ia rfl rfl rfl (by omega) (by decide) ?_
        ir
        show _ = ax_mout _ _ _ _ _ _ (Value.int (m.layers (m.remarkOf j).toInt.toNat), _)
        rw [ht2, htt]
        try rfl
      · refine w_tsw rfl rfl ?_
        gg
        refine w_la rfl rfl rfl (by omega) (by decide) ?_
        gg
        ir
        show _ = ax_mout _ _ _ _ _ _ (Value.int (m.x (m.remarkOf j).toInt.toNat).toInt32, _)
        rw [ht2, htt]
        try rfl
      · refine w_tsw rfl rfl ?_
        gg
        refine w_la rfl rfl rfl (by omega) (by decide) ?_
        gg
        ir
        show _ = ax_mout _ _ _ _ _ _ (Value.int (m.y (m.remarkOf j).toInt.toNat).toInt32, _)
        rw [ht2, htt]
        try rfl
def mp_history (m : ax_Mo) (k w : Int32) : Value × ax_Mo :=
  if ¬ (0 ≤ k.toInt ∧ k.toInt < m.orders ∧ 0 ≤ w.toInt ∧ w.toInt < 7) then (.int 0, { m with thrown := 1 }) else (.int (m.orderRow (7 * k.toInt.toNat + w.toInt.toNat)).toInt32, { m with thrown := 0 })
theorem n_history (k w : Int32) (hn : m.orders ≤ 20) : ax_run m_Mo_history [.ref 23, .int k, .int w] (ax_hp L xs c m o pool, u) (ax_mout L xs c o pool u (mp_history m k w)) := by
  unfold mp_history
  split
  · startR M_Mo_history
    go <;> pm
  · rename_i h1
    obtain ⟨j, rfl, hj1, hj2⟩ := q_nat (x := k) (by omega)
    obtain ⟨v, rfl, hv1, hv2⟩ := q_nat (x := w) (by omega)
    rw [← hj1, ← hv1]
    startR M_Mo_history
    go <;> try pm
    refine w_la (j := 7 * j + v) rfl rfl (by zo) (by omega) (by decide) ?_
    gg
    ir; rfl
def mp_share (m : ax_Mo) (a q : Int64) (k : Int32) : Value × ax_Mo :=
  if ¬ (1 ≤ q.toInt ∧ q.toInt ≤ 1000000 ∧ 0 ≤ a.toInt) then (.long 0, { m with thrown := 2 }) else if ¬ (0 ≤ k.toInt ∧ k.toInt < q.toInt) then (.long 0, { m with thrown := 1 }) else (.long (a / q + (if k.toInt < (a - a / q * q).toInt then 1 else 0)), { m with thrown := 0 })
theorem n_share (a q : Int64) (k : Int32) : ax_run m_Mo_share [.ref 23, .long a, .long q, .int k] (ax_hp L xs c m o pool, u) (ax_mout L xs c o pool u (mp_share m a q k)) := by
  unfold mp_share
  split
  · startR M_Mo_share
    gg
    cS (n_isQuantity q)
    go <;> pm
  · split
    · startR M_Mo_share
      gg
      cS (n_isQuantity q)
      go <;> pm
    · startR M_Mo_share
      gg
      cS (n_isQuantity q)
      go <;> try pm
      refine w_ldiv rfl (by zo) ?_
      gg
      refine w_lrem rfl (by zo) ?_
      gg
      refine w_if1 rfl (fun h1 => ?_) (fun h1 => ?_)
      · gg
        refine w_lret rfl rfl ?_
        rw [if_neg (by have h2 := (lg_cmp_ge _ _).mp h1; rw [Int64.le_iff_toInt_le, q_i2l] at h2; omega)]
        rfl
      · gg
        refine w_lret rfl rfl ?_
        rw [if_pos (by have h2 : ¬ (a - a / q * q ≤ k.toInt64) := fun z => h1 ((lg_cmp_ge _ _).mpr z); rw [Int64.le_iff_toInt_le, q_i2l] at h2; omega)]
        rfl
def mp_copper (m : ax_Mo) (l k : Int32) (a b : Int64) : Value × ax_Mo :=
  if ¬ (0 ≤ l.toInt ∧ l.toInt < 8 ∧ 0 ≤ k.toInt ∧ k.toInt < 16) then (.int 0, { m with thrown := 1 }) else if ¬ (1 ≤ b.toInt ∧ b.toInt ≤ 10 ∧ 0 ≤ a.toInt ∧ a.toInt ≤ b.toInt) then (.int 0, { m with thrown := 2 })
  else (.int (bI (¬ (m.above (16 * l.toInt.toNat + k.toInt.toNat) = a ∧ m.below (16 * l.toInt.toNat + k.toInt.toNat) = b))), { m with thrown := 0, above := vp_updL m.above (16 * l.toInt.toNat + k.toInt.toNat) a, below := vp_updL m.below (16 * l.toInt.toNat + k.toInt.toNat) b })
theorem n_copper (l k : Int32) (a b : Int64) : ax_run m_Mo_copper [.ref 23, .int l, .int k, .long a, .long b] (ax_hp L xs c m o pool, u) (ax_mout L xs c o pool u (mp_copper m l k a b)) := by
  unfold mp_copper
  split
  · startR M_Mo_copper
    go <;> try pm
    all_goals (cS (n_isCell l k); go <;> pm)
  · split
    · startR M_Mo_copper
      go <;> try pm
      all_goals (cS (n_isCell l k); go <;> pm)
    · rename_i h1 h2
      obtain ⟨j, rfl, hj1, hj2⟩ := q_nat (x := l) (by omega)
      obtain ⟨v, rfl, hv1, hv2⟩ := q_nat (x := k) (by omega)
      rw [← hj1, ← hv1]
      have hix : (Int8.ofInt 16).toInt32 * nI j + nI v = nI (16 * j + v) := (q_idx _ _ _ j v 16 (by omega) (by omega) (by rw [q_b8]; rfl) (by decide) (q_nI' (by omega)) (q_nI' (by omega))).1
      startR M_Mo_copper
      go <;> try pm
      cS (n_isCell (nI j) (nI v))
      go <;> try pm
      refine w_la (j := 16 * j + v) rfl rfl hix (by omega) (by decide) ?_
      have fin : ∀ (z : Int32) (i : Int32), i = nI (16 * j + v) → z = bI (¬ (m.above (16 * j + v) = a ∧ m.below (16 * j + v) = b)) → ax_wp ax_run M_Mo_copper (fun r' => r' = ax_mout L xs c o pool u (.int (bI (¬ (m.above (16 * j + v) = a ∧ m.below (16 * j + v) = b))), { m with thrown := 0, above := vp_updL m.above (16 * j + v) a, below := vp_updL m.below (16 * j + v) b })) 111 [(9, .int z), (0, .ref 23), (8, .int i), (3, .long a), (5, .long b)] [] (ax_hp L xs c { m with thrown := 0 } o pool, u) := by
        intro z i hi hz
        subst hi
        gg
        refine w_las rfl rfl rfl (by omega) (by decide) ?_
        gg
        refine w_las rfl rfl rfl (by omega) (by decide) ?_
        gg
        refine w_iret rfl rfl (by rw [hz]; exact bI_nar) ?_
        rw [hz]
        rfl
      gg
      refine w_if1 rfl (fun h3 => ?_) (fun h3 => ?_)
      · have h4 : ¬ m.above (16 * j + v) = a := fun z => h3 ((lg_cmp_eq _ _).mpr z)
        gto 111
        exact w_lv (fin (Int32.ofInt 1) _ hix (bI_t (P := ¬ (m.above (16 * j + v) = a ∧ m.below (16 * j + v) = b)) (fun z => h4 z.1)).symm) rfl ⟨rfl, rfl, rfl, rfl, rfl, trivial⟩
      · have h4 : m.above (16 * j + v) = a := (lg_cmp_eq _ _).mp (Decidable.not_not.mp h3)
        gg
        refine w_la (j := 16 * j + v) rfl rfl hix (by omega) (by decide) ?_
        gg
        refine w_if1 rfl (fun h5 => ?_) (fun h5 => ?_)
        · have h6 : m.below (16 * j + v) = b := (lg_cmp_eq _ _).mp h5
          gto 111
          exact w_lv (fin (Int32.ofInt 0) _ hix (bI_f (fun z => z ⟨h4, h6⟩)).symm) rfl ⟨rfl, rfl, rfl, rfl, rfl, trivial⟩
        · have h6 : ¬ m.below (16 * j + v) = b := fun z => h5 ((lg_cmp_eq _ _).mpr z)
          gto 111
          exact w_lv (fin (Int32.ofInt 1) _ hix (bI_t (P := ¬ (m.above (16 * j + v) = a ∧ m.below (16 * j + v) = b)) (fun z => h6 z.2)).symm) rfl ⟨rfl, rfl, rfl, rfl, rfl, trivial⟩
end MB
end
section
/-! the balance, reference -/
structure CRel (c : ax_St) (m : ax_Mo) : Prop where
  a : ∀ i, i < 128 → (m.above i).toInt = (c.ab i).toInt
  b : ∀ i, i < 128 → (m.below i).toInt = (c.be i).toInt
section MJ
variable {L : Nat} {xs : Nat → Int32} {c : ax_St} {m : ax_Mo} {o : Nat → Int64} {pool : List (Option ax_C)} {u : Nat} {h : ax_H}
def mp_balance (c : ax_St) (m : ax_Mo) (l k p : Int32) : Value × ax_Mo := if ¬ (0 ≤ l.toInt ∧ l.toInt < 8 ∧ 0 ≤ k.toInt ∧ k.toInt < 16 ∧ (p = 0 ∨ p = 1)) then (.long 0, { m with thrown := 1 }) else (.long (ax_bal (ax_abv c.ab c.be l.toInt.toNat k.toInt.toNat) p), { m with thrown := 0 })
theorem n_unit1 (hc : CellOk c) (hR : CRel c m) {i : Nat} (hi : i < 128) : (m.above i * ((2520 : Int64) / m.below i)).toInt = (ax_un c.ab c.be i : Nat) ∧ ¬ m.below i = 0 := by
  have hA := hc.a i hi
  have hB := hc.b i hi
  have e1 : (m.above i).toInt = (((c.ab i).toInt.toNat : Nat) : Int) := by rw [hR.a i hi]; omega
  have e2 : ((2520 : Int64) / m.below i).toInt = ((2520 / (c.be i).toInt.toNat : Nat) : Int) := q_divL (m := 2520) rfl (by rw [hR.b i hi]; omega) (by decide)
  refine ⟨q_mulN e1 e2 (Nat.lt_of_le_of_lt (ax_un_b hc (i := i) hi) (by decide)), fun z => ?_⟩
  have := congrArg Int64.toInt z
  rw [hR.b i hi] at this
  have h0 : ((0 : Int64)).toInt = 0 := rfl
  omega
theorem n_balance (hc : CellOk c) (hR : CRel c m) (l k p : Int32) : ax_run m_Mo_balance [.ref 23, .int l, .int k, .int p] (ax_hp L xs c m o pool, u) (ax_mout L xs c o pool u (mp_balance c m l k p)) := by
  unfold mp_balance
  split
  · rename_i h0
    startR M_Mo_balance
    gg
    cS (n_isCell l k)
    refine w_if1 rfl (fun h5 => ?_) (fun h5 => ?_)
    · gg
      refine w_if1 rfl (fun h5 => absurd h5 k_eq1) (fun _ => ?_)
      gg
      exact w_lret rfl rfl rfl
    · have h6 := Decidable.not_not.mp (fun z => h5 (c_eq0.mpr z))
      gg
      refine w_if1 rfl (fun h7 => absurd (show p = 0 from h7) (fun z => h0 ⟨h6.1, h6.2.1, h6.2.2.1, h6.2.2.2, Or.inl z⟩)) (fun _ => ?_)
      gg
      refine w_if2 rfl (fun _ => ?_) (fun h7 => absurd (show p = 1 from Decidable.not_not.mp h7) (fun z => h0 ⟨h6.1, h6.2.1, h6.2.2.1, h6.2.2.2, Or.inr z⟩))
      gg
      refine w_if1 rfl (fun h5 => absurd h5 k_eq1) (fun _ => ?_)
      gg
      exact w_lret rfl rfl rfl
  · rename_i h0
    have h1 := Decidable.not_not.mp h0
    obtain ⟨n, rfl, hn1, hn2⟩ := q_nat (x := l) (by omega)
    obtain ⟨i, rfl, hi1, hi2⟩ := q_nat (x := k) (by omega)
    have hnn : (nI n).toInt.toNat = n := by rw [← hn1]; rfl
    have hii : (nI i).toInt.toNat = i := by rw [← hi1]; rfl
    rw [hnn, hii]
    have hn8 : n < 8 := by omega
    have hi16 : i < 16 := by omega
    clear hnn hii
    have hz := ax_abv_b hc n i hn8 hi16
    have hg : 1 ≤ Nat.gcd (ax_abv c.ab c.be n i).natAbs 40320 ∧ Nat.gcd (ax_abv c.ab c.be n i).natAbs 40320 ≤ 40320 := ⟨Nat.gcd_pos_of_pos_right _ (by decide), Nat.gcd_le_right _ (by decide)⟩
    have hne : ¬ Int64.ofInt (Nat.gcd (ax_abv c.ab c.be n i).natAbs 40320 : Nat) = 0 := by
      intro z
      have := congrArg Int64.toInt z
      rw [q_ofIL (by omega) (by omega)] at this
      have h0 : ((0 : Int64)).toInt = 0 := rfl
      omega
    generalize hZ : ax_abv c.ab c.be n i = Z at hz hg hne
    have fin : ∀ (lv : ax_L), ax_wp ax_run M_Mo_balance (fun r' => r' = ax_mout L xs c o pool u (.long (ax_bal Z p), { m with thrown := 0 })) 170 [(3, .int p), (7, .long (Int64.ofInt Z)), (11, .long (Int64.ofInt (Nat.gcd Z.natAbs 40320 : Nat)))] [] (ax_hp L xs c { m with thrown := 0 } o pool, u) := by
      intro _
      gg
      refine w_if1 rfl (fun h5 => ?_) (fun h5 => ?_)
      · have h6 : ¬ p = 0 := h5
        gg
        refine w_ldiv rfl hne ?_
        refine w_lret rfl rfl ?_
        unfold ax_bal
        rw [if_neg h6]
        rfl
      · have h6 : p = 0 := Decidable.not_not.mp h5
        gg
        refine w_ldiv rfl hne ?_
        gg
        refine w_lret rfl rfl ?_
        unfold ax_bal
        rw [if_pos h6]
        rfl
    have l2 : ∀ (A B : Nat), A < 9223372036854775808 → B < 9223372036854775808 → Nat.gcd B A = Nat.gcd Z.natAbs 40320 → ax_wp ax_run M_Mo_balance (fun r' => r' = ax_mout L xs c o pool u (.long (ax_bal Z p), { m with thrown := 0 })) 145 [(3, .int p), (7, .long (Int64.ofInt Z)), (9, .long (Int64.ofInt (A : Int))), (11, .long (Int64.ofInt (B : Int)))] [] (ax_hp L xs c { m with thrown := 0 } o pool, u) := by
      intro A
      induction A using Nat.strongRecOn with
      | ind A ih =>
        intro B hA hB hgc
        have eA : (Int64.ofInt (A : Int)).toInt = A := q_ofIL (by omega) (by omega)
        have eB : (Int64.ofInt (B : Int)).toInt = B := q_ofIL (by omega) (by omega)
        gg
        refine w_if1 rfl (fun h5 => ?_) (fun h5 => ?_)
        · have h6 := c_Leq.mp h5
          rw [eA, q_ofNL] at h6
          have hA0 : A = 0 := by omega
          subst hA0
          rw [Nat.gcd_zero_right] at hgc
          subst hgc
          exact w_lv (fin []) rfl ⟨rfl, rfl, rfl, trivial⟩
        · have hA0 : 0 < A := by
            apply Nat.pos_of_ne_zero
            intro z
            subst z
            exact h5 (c_Leq.mpr rfl)
          have em : Int64.ofInt (B : Int) - Int64.ofInt (B : Int) / Int64.ofInt (A : Int) * Int64.ofInt (A : Int) = Int64.ofInt (B % A : Nat) := q_toL (q_modL eB eA hB)
          gg
          refine w_lrem rfl (fun z => ?_) ?_
          · have := congrArg Int64.toInt z
            rw [eA] at this
            have h0 : ((0 : Int64)).toInt = 0 := rfl
            omega
          rw [em]
          gto 145
          have hml := Nat.mod_lt B hA0
          exact w_lv (ih (B % A) hml A (by omega) hA (by rw [q_gcd, hgc])) rfl ⟨rfl, rfl, rfl, rfl, trivial⟩
    have lp : ∀ (d s : Nat), s + d = 16 → ax_wp ax_run M_Mo_balance (fun r' => r' = ax_mout L xs c o pool u (.long (ax_bal Z p), { m with thrown := 0 })) 44 [(0, .ref 23), (1, .int (nI n)), (2, .int (nI i)), (3, .int p), (4, .long (Int64.ofInt (ax_sm c.ab c.be (16 * n) s : Nat))), (6, .int (nI (16 * n + s)))] [] (ax_hp L xs c { m with thrown := 0 } o pool, u) := by
      intro d
      induction d with
      | zero =>
        intro s hs
        have : s = 16 := by omega
        subst this
        have h2 := ax_sm_b hc (i := 16 * n) 16 (by omega)
        have h3 := ax_un_b hc (i := 16 * n + i) (by omega)
        have hu := n_unit1 hc hR (i := 16 * n + i) (by omega)
        gto 53
        refine w_eqI (y := nI (16 * n + 16)) (by ix) ?_
        refine w_if2 rfl (fun _ => ?_) (fun h5 => absurd ((cn_ge (a := 16 * n + 16) (b := 16 * n + 16) (by omega) (by omega)).mpr (Nat.le_refl _)) h5)
        gto 92
        refine w_eqI (y := nI (16 * n + i)) (by ix) ?_
        gg
        refine w_la rfl rfl rfl (by omega) (by decide) ?_
        gg
        refine w_la rfl rfl rfl (by omega) (by decide) ?_
        refine w_ldiv rfl hu.2 ?_
        gto 120
        refine w_eqL (y := Int64.ofInt Z) ?_ ?_
        · apply q_toL
          show ((16 : Int64) * m.above (16 * n + i) * ((2520 : Int64) / m.below (16 * n + i)) - Int64.ofInt ((ax_sm c.ab c.be (16 * n) 16 : Nat) : Int)).toInt = Z
          have e1 : (16 : Int64) * m.above (16 * n + i) * ((2520 : Int64) / m.below (16 * n + i)) = (16 : Int64) * (m.above (16 * n + i) * ((2520 : Int64) / m.below (16 * n + i))) := Int64.mul_assoc _ _ _
          rw [e1, q_subL, q_mulN (m := 16) rfl hu.1 (by omega), q_ofIL (by omega) (by omega), ← hZ]
          unfold ax_abv
          omega
        gg
        refine w_if1 rfl (fun h5 => ?_) (fun h5 => ?_)
        · have h6 := c_Lge.mp h5
          rw [q_ofIL (by omega) (by omega), q_ofNL] at h6
          gto 138
          refine w_eqL (y := Int64.ofInt (Z.natAbs : Nat)) (q_toL (by rw [q_ofIL (by omega) (by omega)]; omega)) ?_
          gto 145
          exact w_lv (l2 Z.natAbs 40320 (by omega) (by decide) (Nat.gcd_comm _ _)) rfl ⟨rfl, rfl, rfl, rfl, trivial⟩
        · have h6 : ¬ (Int64.ofNat 0).toInt ≤ (Int64.ofInt Z).toInt := fun w => h5 (c_Lge.mpr w)
          rw [q_ofIL (by omega) (by omega), q_ofNL] at h6
          gto 138
          refine w_eqL (y := Int64.ofInt (Z.natAbs : Nat)) (q_toL (by rw [q_subL, q_ofIL (by omega) (by omega), q_ofNL]; omega)) ?_
          gto 145
          exact w_lv (l2 Z.natAbs 40320 (by omega) (by decide) (Nat.gcd_comm _ _)) rfl ⟨rfl, rfl, rfl, rfl, trivial⟩
      | succ d ih =>
        intro s hs
        have h2 := ax_sm_b hc (i := 16 * n) s (by omega)
        have h3 := ax_un_b hc (i := 16 * n + s) (by omega)
        have hu := n_unit1 hc hR (i := 16 * n + s) (by omega)
        gto 53
        refine w_eqI (y := nI (16 * n + 16)) (by ix) ?_
        refine w_if2 rfl (fun h5 => absurd ((cn_ge (a := 16 * n + s) (b := 16 * n + 16) (by omega) (by omega)).mp h5) (by omega)) (fun _ => ?_)
        gg
        refine w_la rfl rfl rfl (by omega) (by decide) ?_
        gg
        refine w_la rfl rfl rfl (by omega) (by decide) ?_
        refine w_ldiv rfl hu.2 ?_
        gto 44
        refine w_lv (ih (s + 1) (by omega)) rfl ⟨rfl, rfl, rfl, rfl, ?_, rfl, trivial⟩
        have e1 : Int64.ofInt ((ax_sm c.ab c.be (16 * n) s : Nat) : Int) + m.above (16 * n + s) * ((2520 : Int64) / m.below (16 * n + s)) = Int64.ofInt ((ax_sm c.ab c.be (16 * n) (s + 1) : Nat) : Int) := by
          apply q_toL
          exact q_addN (q_ofIL (by omega) (by omega)) hu.1 (by omega)
        rw [← e1]
        rfl
    startR M_Mo_balance
    gg
    cS (n_isCell (nI n) (nI i))
    refine w_if1 rfl (fun h5 => absurd ⟨h1.1, h1.2.1, h1.2.2.1, h1.2.2.2.1⟩ (c_eq0.mp h5)) (fun _ => ?_)
    gg
    have tail : ax_wp ax_run M_Mo_balance (fun r' => r' = ax_mout L xs c o pool u (.long (ax_bal Z p), { m with thrown := 0 })) 18 [(0, .ref 23), (1, .int (nI n)), (2, .int (nI i)), (3, .int p)] [.ref 23] (ax_hp L xs c m o pool, u) := by
      gg
      refine w_if1 rfl (fun _ => ?_) (fun h5 => absurd rfl h5)
      gto 42
      refine w_eqI (y := nI (16 * n)) (by ix) ?_
      gto 44
      exact w_lv (lp 16 0 (by omega)) rfl ⟨rfl, rfl, rfl, rfl, rfl, rfl, trivial⟩
    rcases h1.2.2.2.2 with hp | hp
    · refine w_if1 rfl (fun _ => ?_) (fun h5 => absurd hp h5)
      exact w_lv tail rfl ⟨rfl, rfl, rfl, rfl, trivial⟩
    · refine w_if1 rfl (fun h5 => absurd (show p = 0 from h5) (by rw [hp]; decide)) (fun _ => ?_)
      gg
      refine w_if2 rfl (fun h5 => absurd hp h5) (fun _ => ?_)
      exact w_lv tail rfl ⟨rfl, rfl, rfl, rfl, trivial⟩
end MJ
end
section
/-! classes (grades) and offers, in the pool -/
structure ax_Gr where
  lim : Nat → Int32
  fr : Nat → Int32
  ce : Nat → Int32
  st : Nat
  dy : Int32
structure ax_Of where
  n : Nat
  g : Nat → ax_Gr
def GradeAt (P : List (Option ax_C)) (i : Nat) (G : ax_Gr) : Prop :=
  ∃ (a b d : Nat) (can : Int32), P[i]? = some (ax_ob 3 [.ref (a + 40), .ref (b + 40), .ref (d + 40), .int (nI G.st), .int G.dy, .int can]) ∧ P[a]? = some (ax_aI 6 G.lim) ∧ P[b]? = some (ax_aI 4 G.fr) ∧ P[d]? = some (ax_aI 4 G.ce)
def OfferAt (P : List (Option ax_C)) (i : Nat) (F : ax_Of) : Prop :=
  ∃ (a : Nat) (gf : Nat → Option Nat), P[i]? = some (ax_ob 4 [.ref (a + 40), .int (nI F.n)]) ∧ P[a]? = some (ax_aG 4 gf) ∧ ∀ k, k < F.n → ∃ j, gf k = some (j + 40) ∧ GradeAt P j (F.g k)
structure GradeOk (G : ax_Gr) : Prop where
  s1 : 1 ≤ G.st
  s4 : G.st ≤ 4
  lm : ∀ k, k < 6 → 0 ≤ (G.lim k).toInt ∧ (G.lim k).toInt ≤ 1000000
  fm : ∀ s, s < G.st → 1 ≤ (G.fr s).toInt ∧ (G.fr s).toInt ≤ 1000000
  cm : ∀ s, s < G.st → 1 ≤ (G.ce s).toInt ∧ (G.ce s).toInt ≤ 1000000
  up : ∀ s, s + 1 < G.st → (G.fr s).toInt < (G.fr (s + 1)).toInt
  dm : 0 ≤ G.dy.toInt ∧ G.dy.toInt ≤ 1000
structure OfferOk (F : ax_Of) : Prop where
  n4 : F.n ≤ 4
  gs : ∀ k, k < F.n → GradeOk (F.g k)
structure BoardOk (c : ax_St) : Prop where
  n : c.bn ≤ 60
  k : ∀ t, t < c.bn → 0 ≤ (c.kinds t).toInt ∧ (c.kinds t).toInt < 6
  v : ∀ t, t < c.bn → 0 ≤ (c.values t).toInt ∧ (c.values t).toInt ≤ 1000000
theorem GradeAt.more {P P' : List (Option ax_C)} {i : Nat} {G : ax_Gr} (h : GradeAt P i G) (hp : ∀ (j : Nat) (x : Option ax_C), P[j]? = some x → P'[j]? = some x) : GradeAt P' i G := by
  obtain ⟨a, b, d, can, h1, h2, h3, h4⟩ := h
  exact ⟨a, b, d, can, hp _ _ h1, hp _ _ h2, hp _ _ h3, hp _ _ h4⟩
theorem OfferAt.more {P P' : List (Option ax_C)} {i : Nat} {F : ax_Of} (h : OfferAt P i F) (hp : ∀ (j : Nat) (x : Option ax_C), P[j]? = some x → P'[j]? = some x) : OfferAt P' i F := by
  obtain ⟨a, gf, h1, h2, h3⟩ := h
  refine ⟨a, gf, hp _ _ h1, hp _ _ h2, fun k hk => ?_⟩
  obtain ⟨j, e1, e2⟩ := h3 k hk
  exact ⟨j, e1, e2.more hp⟩
/-- by how much a thing is beyond -/
def ax_ex (c : ax_St) (G : ax_Gr) (t : Nat) : Int := if (c.kinds t).toInt < 4 then (G.lim (c.kinds t).toInt.toNat).toInt - (c.values t).toInt else (c.values t).toInt - (G.lim (c.kinds t).toInt.toNat).toInt
theorem ax_ex_b {c : ax_St} {G : ax_Gr} {t : Nat} (hb : BoardOk c) (hg : GradeOk G) (ht : t < c.bn) : -1000000 ≤ ax_ex c G t ∧ ax_ex c G t ≤ 1000000 := by
  have h1 := hb.k t ht
  have h2 := hb.v t ht
  have h3 := hg.lm (c.kinds t).toInt.toNat (by omega)
  unfold ax_ex
  split <;> omega
def ax_made (c : ax_St) (G : ax_Gr) : Prop := ∀ t, t < c.bn → ax_ex c G t ≤ 0
instance (c : ax_St) (G : ax_Gr) : Decidable (ax_made c G) := inferInstanceAs (Decidable (∀ t, t < c.bn → ax_ex c G t ≤ 0))
def ax_lst (p : Nat → Bool) : Nat → Nat → Int32
  | 0, _ => -1
  | d + 1, k => if p k = true then nI k else ax_lst p d (k + 1)
def ax_least (c : ax_St) (F : ax_Of) : Int32 := ax_lst (fun k => decide (ax_made c (F.g k))) F.n 0
def ax_jx (p : Nat → Bool) : Nat → Nat
  | 0 => 0
  | s + 1 => if p s = true then s else ax_jx p s
/-- the price -/
def ax_paid (G : ax_Gr) (q : Int64) : Int := if q.toInt < (G.fr 0).toInt then (G.fr 0).toInt else q.toInt
def ax_pri (G : ax_Gr) (q : Int64) : Int := ax_paid G q * (G.ce (ax_jx (fun s => decide ((G.fr s).toInt ≤ ax_paid G q)) G.st)).toInt
section CF
variable {L : Nat} {xs : Nat → Int32} {c : ax_St} {m : ax_Mo} {o : Nat → Int64} {pool : List (Option ax_C)} {u : Nat} {h : ax_H}
theorem hp_at {i : Nat} {x : Option ax_C} (h : pool[i]? = some x) : (ax_hp L xs c m o pool)[i + 40]? = some x := h
theorem r_Gr_excess {g : Nat} {G : ax_Gr} (hg : GradeAt pool g G) (hok : GradeOk G) (k v : Int32) (hk : 0 ≤ k.toInt ∧ k.toInt < 6) (hv : 0 ≤ v.toInt ∧ v.toInt ≤ 1000000) :
    ax_run m_Gr_excess [.ref (g + 40), .int k, .int v] (ax_hp L xs c m o pool, u) (.inl (some (.int (Int32.ofInt (if k.toInt < 4 then (G.lim k.toInt.toNat).toInt - v.toInt else v.toInt - (G.lim k.toInt.toNat).toInt)))), (ax_hp L xs c m o pool, u)) := by
  obtain ⟨a, b, d, can, h1, h2, h3, h4⟩ := hg
  obtain ⟨n, rfl, hn1, hn2⟩ := q_nat (x := k) (by omega)
  have hl := hok.lm n (by omega)
  rw [← hn1]
  simp only [Int.toNat_natCast]
  startR M_Gr_excess
  go
  refine w_get rfl rfl (hp_at h1) rfl ?_
  gg
  refine w_ia rfl (hp_at h2) rfl (by omega) (by decide) ?_
  gg
  refine w_if2 rfl (fun h5 => ?_) (fun h5 => ?_)
  · gg
    refine w_eqI (y := Int32.ofInt (v.toInt - (G.lim n).toInt)) (by zo) ?_
    ir
    rw [if_neg (by zo)]
  · gg
    refine w_eqI (y := Int32.ofInt ((G.lim n).toInt - v.toInt)) (by zo) ?_
    ir
    rw [if_pos (by zo)]
theorem r_Bd_excess1 {g : Nat} {G : ax_Gr} (hg : GradeAt pool g G) (hok : GradeOk G) (hb : BoardOk c) (t : Nat) (ht : t < c.bn) :
    ax_run m_Bd_excess [.ref 5, .int (nI t), .ref (g + 40)] (ax_hp L xs c m o pool, u) (.inl (some (.int (Int32.ofInt (ax_ex c G t)))), (ax_hp L xs c m o pool, u)) := by
  have hn := hb.n
  startR M_Bd_excess
  gg
  cV (r_Bd_hasNo (nI t) hb.n)
  go
  refine w_ia rfl rfl rfl (by omega) (by decide) ?_
  gg
  refine w_ia rfl rfl rfl (by omega) (by decide) ?_
  obtain ⟨a, b, d, can, h1, -⟩ := id hg
  refine w_cv rfl rfl rfl (hp_at h1) (Nat.le_of_ble_eq_true rfl) (Nat.le_of_ble_eq_true rfl) (r_Gr_excess hg hok (c.kinds t) (c.values t) (hb.k t ht) (hb.v t ht)) ?_
  ir
  rfl
theorem r_Bd_excess0 {g : Nat} (hb : c.bn ≤ 60) (t : Nat) (ht : c.bn ≤ t) (ht2 : t < 100) :
    ax_run m_Bd_excess [.ref 5, .int (nI t), .ref (g + 40)] (ax_hp L xs c m o pool, u) (.inl (some (.int 0)), (ax_hp L xs c m o pool, u)) := by
  startR M_Bd_excess
  gg
  cV (r_Bd_hasNo (nI t) hb)
  go
  ir
  rfl
theorem r_isMadeBy {g : Nat} {G : ax_Gr} (hg : GradeAt pool g G) (hok : GradeOk G) (hb : BoardOk c) :
    ax_run m_Bd_isMadeBy [.ref 5, .ref (g + 40)] (ax_hp L xs c m o pool, u) (.inl (some (.int (bI (ax_made c G)))), (ax_hp L xs c m o pool, u)) := by
  have hn := hb.n
  have lp : ∀ (d k : Nat), k + d = c.bn → (∀ t, t < k → ax_ex c G t ≤ 0) → ax_wp ax_run M_Bd_isMadeBy (fun r' => r' = (.inl (some (.int (bI (ax_made c G)))), (ax_hp L xs c m o pool, u))) 2 [(0, .ref 5), (1, .ref (g + 40)), (2, .int (nI k))] [] (ax_hp L xs c m o pool, u) := by
    intro d
    induction d with
    | zero =>
      intro k hk hall
      go
      ir
      exact bT (fun t ht => hall t (by omega))
    | succ d ih =>
      intro k hk hall
      go
      cV (r_Bd_excess1 hg hok hb k (by omega))
      have hx := ax_ex_b hb hok (t := k) (by omega)
      refine w_if1 rfl (fun h5 => ?_) (fun h5 => ?_)
      · gto 2
        refine w_lv (ih (k + 1) (by omega) (fun t ht => ?_)) rfl ⟨rfl, rfl, rfl, trivial⟩
        by_cases hk2 : t = k
        · subst hk2
          have h6 : (Int32.ofInt (ax_ex c G t)).toInt ≤ 0 := by
            have := Int32.le_iff_toInt_le.mp h5
            exact this
          rw [q_ofI] at h6
          omega
        · exact hall t (by omega)
      · gg
        ir
        refine bF (fun hm => ?_)
        have h6 := hm k (by omega)
        apply h5
        show _ ≤ (0 : Int32)
        rw [Int32.le_iff_toInt_le, q_ofI]
        show _ ≤ (0 : Int)
        omega
  startR M_Bd_isMadeBy
  gto 2
  exact w_lv (lp c.bn 0 (by omega) (fun t ht => absurd ht (by omega))) rfl ⟨rfl, rfl, rfl, trivial⟩
theorem r_gradeAt0 {f : Nat} {F : ax_Of} (hf : OfferAt pool f F) (hok : OfferOk F) (k : Int32) (hk : ¬ (0 ≤ k.toInt ∧ k.toInt < F.n)) :
    ax_run m_Of_gradeAt [.ref (f + 40), .int k] (ax_hp L xs c m o pool, u) (.inl (some .null), (ax_hp L xs c m o pool, u)) := by
  have hn := hok.n4
  obtain ⟨a, gf, h1, h2, h3⟩ := hf
  startR M_Of_gradeAt
  go
  · refine w_aret rfl rfl rfl rfl
  · refine w_get rfl rfl (hp_at h1) rfl ?_
    go
    refine w_aret rfl rfl rfl rfl
theorem r_gradeAt1 {f : Nat} {F : ax_Of} (hf : OfferAt pool f F) (hok : OfferOk F) (k : Nat) (hk : k < F.n) :
    ∃ j, GradeAt pool j (F.g k) ∧ ax_run m_Of_gradeAt [.ref (f + 40), .int (nI k)] (ax_hp L xs c m o pool, u) (.inl (some (.ref (j + 40))), (ax_hp L xs c m o pool, u)) := by
  have hn := hok.n4
  obtain ⟨a, gf, h1, h2, h3⟩ := hf
  obtain ⟨j, e1, e2⟩ := h3 k hk
  refine ⟨j, e2, ?_⟩
  startR M_Of_gradeAt
  go
  refine w_get rfl rfl (hp_at h1) rfl ?_
  go
  refine w_get rfl rfl (hp_at h1) rfl ?_
  gg
  refine w_aa rfl (hp_at h2) (Or.inr rfl) rfl (by omega) (by decide) ?_
  rw [e1]
  refine w_aret rfl rfl rfl rfl
theorem r_leastFor {f : Nat} {F : ax_Of} (hf : OfferAt pool f F) (hok : OfferOk F) (hb : BoardOk c) :
    ax_run m_Of_leastFor [.ref (f + 40), .ref 5] (ax_hp L xs c m o pool, u) (.inl (some (.int (ax_least c F))), (ax_hp L xs c m o pool, u)) := by
  have hn := hok.n4
  have lp : ∀ (d k : Nat), k + d = F.n → ax_wp ax_run M_Of_leastFor (fun r' => r' = (.inl (some (.int (ax_lst (fun k => decide (ax_made c (F.g k))) d k))), (ax_hp L xs c m o pool, u))) 2 [(0, .ref (f + 40)), (1, .ref 5), (2, .int (nI k))] [] (ax_hp L xs c m o pool, u) := by
    intro d
    induction d with
    | zero =>
      intro k hk
      obtain ⟨a, gf, h1, h2, h3⟩ := id hf
      gg
      refine w_get rfl rfl (hp_at h1) rfl ?_
      go
      ir
      rfl
    | succ d ih =>
      intro k hk
      obtain ⟨a, gf, h1, h2, h3⟩ := id hf
      gg
      refine w_get rfl rfl (hp_at h1) rfl ?_
      go
      obtain ⟨j, hj, hr⟩ := r_gradeAt1 (L := L) (xs := xs) (c := c) (m := m) (o := o) (u := u) hf hok k (by omega)
      refine w_cv rfl rfl rfl (hp_at h1) (Nat.le_of_ble_eq_true rfl) (Nat.le_of_ble_eq_true rfl) hr ?_
      dsimp only [Option.toList, List.drop, List.cons_append, List.nil_append]
      gg
      cV (r_isMadeBy hj (hok.gs k (by omega)) hb)
      refine w_if1 rfl (fun h5 => ?_) (fun h5 => ?_)
      · have h6 := c_eq0.mp h5
        gto 2
        refine w_lv (l1 := [(0, .ref (f + 40)), (1, .ref 5), (2, .int (nI (k + 1)))]) (w_post (ih (k + 1) (by omega)) (fun r hr => ?_)) rfl ⟨rfl, rfl, rfl, trivial⟩
        rw [hr]
        simp only [ax_lst, h6, decide_false, Bool.false_eq_true, if_false]
      · have h6 : ax_made c (F.g k) := Decidable.not_not.mp (fun z => h5 (c_eq0.mpr z))
        gg
        ir
        simp only [ax_lst, h6, decide_true, if_true]
  startR M_Of_leastFor
  gto 2
  exact w_lv (lp F.n 0 (by omega)) rfl ⟨rfl, rfl, rfl, trivial⟩
end CF
end
section
section CG
variable {L : Nat} {xs : Nat → Int32} {c : ax_St} {m : ax_Mo} {o : Nat → Int64} {pool : List (Option ax_C)} {u : Nat} {h : ax_H}
theorem r_maxL (a b : Int64) : ax_run m_Ma_maxL [.long a, .long b] h (.inl (some (.long (if a.toInt < b.toInt then b else a))), h) := by
  startR M_Ma_maxL
  gg
  refine w_if1 rfl (fun h1 => ?_) (fun h1 => ?_)
  · rw [if_pos (c_Llt.mp h1)]
    gg
    exact w_lret rfl rfl rfl
  · rw [if_neg (fun z => h1 (c_Llt.mpr z))]
    gg
    exact w_lret rfl rfl rfl
theorem q_ofIL {z : Int} (h1 : -9223372036854775808 ≤ z) (h2 : z < 9223372036854775808) : (Int64.ofInt z).toInt = z := by
  rw [Int64.toInt_ofInt, show Int64.size = 2 ^ 64 from rfl, q_bm64]
  omega
theorem q_toL {x : Int64} {z : Int} (h : x.toInt = z) : x = Int64.ofInt z := by
  rw [q_eqL, h, q_ofIL] <;> have := q_bL x <;> omega
theorem r_priceOf {g : Nat} {G : ax_Gr} (hg : GradeAt pool g G) (hok : GradeOk G) (q : Int64) (hq : 1 ≤ q.toInt ∧ q.toInt ≤ 1000000) :
    ax_run m_Gr_priceOf [.ref (g + 40), .long q] (ax_hp L xs c m o pool, u) (.inl (some (.long (Int64.ofInt (ax_pri G q)))), (ax_hp L xs c m o pool, u)) := by
  have hs1 := hok.s1
  have hs4 := hok.s4
  obtain ⟨a, b, d, can, h1, h2, h3, h4⟩ := hg
  have hf0 := hok.fm 0 (by omega)
  have hpb : 1 ≤ ax_paid G q ∧ ax_paid G q ≤ 1000000 ∧ (G.fr 0).toInt ≤ ax_paid G q := by unfold ax_paid; split <;> omega
  have lp : ∀ (e k : Nat), 1 ≤ k → k + e = G.st → ax_wp ax_run M_Gr_priceOf (fun r' => r' = (.inl (some (.long (Int64.ofInt (ax_pri G q)))), (ax_hp L xs c m o pool, u))) 24 [(0, .ref (g + 40)), (3, .long (Int64.ofInt (ax_paid G q))), (5, .long (G.ce (ax_jx (fun s => decide ((G.fr s).toInt ≤ ax_paid G q)) k)).toInt64), (7, .int (nI k))] [] (ax_hp L xs c m o pool, u) := by
    intro e
    induction e with
    | zero =>
      intro k hk0 hk
      have : k = G.st := by omega
      subst this
      gg
      refine w_get rfl rfl (hp_at h1) rfl ?_
      go
      refine w_lret rfl rfl ?_
      congr 4
      have hj : ax_jx (fun s => decide ((G.fr s).toInt ≤ ax_paid G q)) G.st < G.st := by
        have : ∀ n, 1 ≤ n → ax_jx (fun s => decide ((G.fr s).toInt ≤ ax_paid G q)) n < n := by
          intro n
          induction n with
          | zero => intro z; omega
          | succ n ihn =>
            intro _
            unfold ax_jx
            split
            · omega
            · by_cases hz : 1 ≤ n
              · have := ihn hz; omega
              · have : n = 0 := by omega
                subst this
                exact Nat.succ_pos 0
        exact this _ hs1
      have hc := hok.cm _ hj
      generalize hce : G.ce (ax_jx (fun s => decide ((G.fr s).toInt ≤ ax_paid G q)) G.st) = ce at hc
      apply q_toL
      rw [q_mulL, q_ofIL (by omega) (by omega), q_i2l]
      unfold ax_pri
      rw [hce]
      have hm1 : ax_paid G q * ce.toInt ≤ 1000000 * 1000000 := Int.mul_le_mul (by omega) (by omega) (by omega) (by omega)
      have hm2 : 0 ≤ ax_paid G q * ce.toInt := Int.mul_nonneg (by omega) (by omega)
      omega
    | succ e ih =>
      intro k hk0 hk
      have hfk := hok.fm k (by omega)
      gg
      refine w_get rfl rfl (hp_at h1) rfl ?_
      go
      refine w_get rfl rfl (hp_at h1) rfl ?_
      gg
      refine w_ia rfl (hp_at h3) rfl (by omega) (by decide) ?_
      gg
      refine w_if1 rfl (fun h5 => ?_) (fun h5 => ?_)
      · have h6 := c_Lgt.mp h5
        rw [q_i2l, q_ofIL (by omega) (by omega)] at h6
        gto 24
        refine w_lv (ih (k + 1) (by omega) (by omega)) rfl ⟨rfl, rfl, ?_, rfl, trivial⟩
        have e1 : ax_jx (fun s => decide ((G.fr s).toInt ≤ ax_paid G q)) (k + 1) = ax_jx (fun s => decide ((G.fr s).toInt ≤ ax_paid G q)) k := by
          show (if decide ((G.fr k).toInt ≤ ax_paid G q) = true then k else _) = _
          rw [if_neg (by rw [decide_eq_true_eq]; omega)]
        rw [e1]
        rfl
      · have h6 : ¬ ((Int64.ofInt (ax_paid G q)).toInt < (G.fr k).toInt64.toInt) := fun z => h5 (c_Lgt.mpr z)
        rw [q_i2l, q_ofIL (by omega) (by omega)] at h6
        gg
        refine w_get rfl rfl (hp_at h1) rfl ?_
        gg
        refine w_ia rfl (hp_at h4) rfl (by omega) (by decide) ?_
        gto 24
        refine w_lv (ih (k + 1) (by omega) (by omega)) rfl ⟨rfl, rfl, ?_, rfl, trivial⟩
        have e1 : ax_jx (fun s => decide ((G.fr s).toInt ≤ ax_paid G q)) (k + 1) = k := by
          show (if decide ((G.fr k).toInt ≤ ax_paid G q) = true then k else _) = _
          rw [if_pos (by rw [decide_eq_true_eq]; omega)]
        rw [e1]
        rfl
  startR M_Gr_priceOf
  gg
  refine w_get rfl rfl (hp_at h1) rfl ?_
  gg
  refine w_ia (j := 0) rfl (hp_at h3) rfl (by decide) (by decide) ?_
  gg
  cS (r_maxL q (G.fr 0).toInt64)
  have e0 : (if q.toInt < (G.fr 0).toInt64.toInt then (G.fr 0).toInt64 else q) = Int64.ofInt (ax_paid G q) := by
    apply q_toL
    unfold ax_paid
    rw [q_i2l]
    split
    · exact q_i2l _
    · rfl
  rw [e0]
  gg
  refine w_get rfl rfl (hp_at h1) rfl ?_
  gg
  refine w_ia (j := 0) rfl (hp_at h4) rfl (by decide) (by decide) ?_
  gto 24
  refine w_lv (lp (G.st - 1) 1 (by omega) (by omega)) rfl ⟨rfl, rfl, ?_, rfl, trivial⟩
  have e1 : ax_jx (fun s => decide ((G.fr s).toInt ≤ ax_paid G q)) 1 = 0 := by
    show (if decide ((G.fr 0).toInt ≤ ax_paid G q) = true then 0 else _) = _
    split <;> rfl
  rw [e1]
  rfl
theorem r_checkQ1 (q : Int64) (hq : 1 ≤ q.toInt ∧ q.toInt ≤ 1000000) : ax_run m_ML_checkQuantity [.long q] h (.inl none, h) := by
  startR M_ML_checkQuantity
  go
  exact w_vret rfl rfl rfl
theorem r_checkQ0 {H : List (Option ax_C)} (q : Int64) (hq : ¬ (1 ≤ q.toInt ∧ q.toInt ≤ 1000000)) : ax_run m_ML_checkQuantity [.long q] (H, u) (.inr 1, (H ++ [none], u + 6)) := by
  startR M_ML_checkQuantity
  go <;> pr
/-- the makers' offers, and the quotes' -/
structure OffOk (c : ax_St) (pool : List (Option ax_C)) (Fs : Nat → ax_Of) : Prop where
  n : c.told ≤ 4
  at_ : ∀ k, k < c.told → ∃ i, c.of k = some (i + 40) ∧ OfferAt pool i (Fs k) ∧ OfferOk (Fs k)
  no : ∀ k, c.told ≤ k → k < 4 → c.of k = none
structure QuOk (c : ax_St) (pool : List (Option ax_C)) (Qs : Nat → ax_Of) : Prop where
  n : c.qn ≤ 10
  at_ : ∀ k, k < c.qn → ∃ i, c.qo k = some (i + 40) ∧ OfferAt pool i (Qs k) ∧ OfferOk (Qs k)
theorem r_offerOf0 {Fs : Nat → ax_Of} (hF : OffOk c pool Fs) (k : Int32) (hk : ¬ (0 ≤ k.toInt ∧ k.toInt < c.told)) : ax_run m_ML_offerOf [.ref 1, .int k] (ax_hp L xs c m o pool, u) (.inr 0, (ax_hp L xs c m o (pool ++ [none]), u + 6)) := by
  have hn := hF.n
  startR M_ML_offerOf
  go <;> try (thr; rfl)
  have h1 : 0 ≤ k.toInt ∧ k.toInt < 4 := by zo
  obtain ⟨n, rfl, hn1, hn2⟩ := q_nat (x := k) (by omega)
  refine w_aa rfl rfl (Or.inl rfl) rfl (by omega) (by decide) ?_
  rw [hF.no n (by omega) (by omega)]
  gg
  thr
  rfl
theorem r_offerOf1 {k i : Nat} (hk : k < 4) (hi : c.of k = some (i + 40)) : ax_run m_ML_offerOf [.ref 1, .int (nI k)] (ax_hp L xs c m o pool, u) (.inl (some (.ref (i + 40))), (ax_hp L xs c m o pool, u)) := by
  startR M_ML_offerOf
  go
  refine w_aa rfl rfl (Or.inl rfl) rfl (by omega) (by decide) ?_
  rw [hi]
  gg
  exact w_aret rfl rfl rfl rfl
theorem r_gradeOf0 {Fs : Nat → ax_Of} (hF : OffOk c pool Fs) (k j : Int32) (hk : ¬ (0 ≤ k.toInt ∧ k.toInt < c.told ∧ 0 ≤ j.toInt ∧ j.toInt < (Fs k.toInt.toNat).n)) : ax_run m_ML_gradeOf [.ref 1, .int k, .int j] (ax_hp L xs c m o pool, u) (.inr 0, (ax_hp L xs c m o (pool ++ [none]), u + 6)) := by
  have hn := hF.n
  startR M_ML_gradeOf
  gg
  by_cases h1 : 0 ≤ k.toInt ∧ k.toInt < c.told
  · obtain ⟨n, rfl, hn1, hn2⟩ := q_nat (x := k) (by omega)
    obtain ⟨i, e1, e2, e3⟩ := hF.at_ n (by omega)
    cV (r_offerOf1 (by omega) e1)
    gg
    obtain ⟨a, gf, g1, -⟩ := id e2
    rw [← hn1] at hk
    refine w_cv rfl rfl rfl (hp_at g1) (Nat.le_of_ble_eq_true rfl) (Nat.le_of_ble_eq_true rfl) (r_gradeAt0 e2 e3 j (by simp only [Int.toNat_natCast] at hk; omega)) ?_
    dsimp only [Option.toList, List.drop, List.cons_append, List.nil_append]
    gg
    thr
    rfl
  · exact w_cvx rfl rfl rfl rfl (Nat.le_of_ble_eq_true rfl) (Nat.le_of_ble_eq_true rfl) (by decide) rfl (r_offerOf0 hF k h1) rfl
theorem r_gradeOf1 {Fs : Nat → ax_Of} (hF : OffOk c pool Fs) (k j : Nat) (hk : k < c.told) (hj : j < (Fs k).n) : ∃ g, GradeAt pool g ((Fs k).g j) ∧ ax_run m_ML_gradeOf [.ref 1, .int (nI k), .int (nI j)] (ax_hp L xs c m o pool, u) (.inl (some (.ref (g + 40))), (ax_hp L xs c m o pool, u)) := by
  have hn := hF.n
  obtain ⟨i, e1, e2, e3⟩ := hF.at_ k (by omega)
  obtain ⟨g, g1, g2⟩ := r_gradeAt1 (L := L) (xs := xs) (c := c) (m := m) (o := o) (u := u) e2 e3 j hj
  refine ⟨g, g1, ?_⟩
  startR M_ML_gradeOf
  gg
  cV (r_offerOf1 (by omega) e1)
  gg
  obtain ⟨a, gf, z1, -⟩ := id e2
  refine w_cv rfl rfl rfl (hp_at z1) (Nat.le_of_ble_eq_true rfl) (Nat.le_of_ble_eq_true rfl) g2 ?_
  dsimp only [Option.toList, List.drop, List.cons_append, List.nil_append]
  gg
  exact w_aret rfl rfl rfl rfl
def sp_least (c : ax_St) (Fs : Nat → ax_Of) (k : Int32) : ax_SR := if ¬ (0 ≤ k.toInt ∧ k.toInt < c.told) then .inr 0 else .inl (.int (ax_least c (Fs k.toInt.toNat)), c)
theorem r_least {Fs : Nat → ax_Of} (hF : OffOk c pool Fs) (hb : BoardOk c) (k : Int32) : ax_run m_ML_least [.ref 1, .int k] (ax_hp L xs c m o pool, u) (ax_out L xs m o pool u c (sp_least c Fs k)) := by
  have hn := hF.n
  unfold sp_least
  split
  · startR M_ML_least
    gg
    exact w_cvx rfl rfl rfl rfl (Nat.le_of_ble_eq_true rfl) (Nat.le_of_ble_eq_true rfl) (by decide) rfl (r_offerOf0 hF k (by assumption)) rfl
  · obtain ⟨n, rfl, hn1, hn2⟩ := q_nat (x := k) (by omega)
    rw [← hn1]
    obtain ⟨i, e1, e2, e3⟩ := hF.at_ n (by omega)
    startR M_ML_least
    gg
    cV (r_offerOf1 (by omega) e1)
    gg
    obtain ⟨a, gf, g1, -⟩ := id e2
    refine w_cv rfl rfl rfl (hp_at g1) (Nat.le_of_ble_eq_true rfl) (Nat.le_of_ble_eq_true rfl) (r_leastFor e2 e3 hb) ?_
    ir
    rfl
def sp_price (c : ax_St) (Fs : Nat → ax_Of) (k j : Int32) (q : Int64) : ax_SR := if ¬ (0 ≤ k.toInt ∧ k.toInt < c.told ∧ 0 ≤ j.toInt ∧ j.toInt < (Fs k.toInt.toNat).n) then .inr 0 else if ¬ (1 ≤ q.toInt ∧ q.toInt ≤ 1000000) then .inr 1 else .inl (.long (Int64.ofInt (ax_pri ((Fs k.toInt.toNat).g j.toInt.toNat) q)), c)
theorem r_price {Fs : Nat → ax_Of} (hF : OffOk c pool Fs) (k j : Int32) (q : Int64) : ax_run m_ML_price [.ref 1, .int k, .int j, .long q] (ax_hp L xs c m o pool, u) (ax_out L xs m o pool u c (sp_price c Fs k j q)) := by
  have hn := hF.n
  unfold sp_price
  split
  · startR M_ML_price
    gg
    exact w_cvx rfl rfl rfl rfl (Nat.le_of_ble_eq_true rfl) (Nat.le_of_ble_eq_true rfl) (by decide) rfl (r_gradeOf0 hF k j (by assumption)) rfl
  · rename_i h0
    obtain ⟨n, rfl, hn1, hn2⟩ := q_nat (x := k) (by omega)
    obtain ⟨i, rfl, hi1, hi2⟩ := q_nat (x := j) (by omega)
    rw [← hn1, ← hi1] at h0 ⊢
    simp only [Int.toNat_natCast] at h0 ⊢
    obtain ⟨g, g1, g2⟩ := r_gradeOf1 (L := L) (xs := xs) (m := m) (o := o) (u := u) hF n i (by omega) (by omega)
    obtain ⟨-, -, -, e3⟩ := hF.at_ n (by omega)
    split
    · startR M_ML_price
      gg
      cV g2
      gg
      exact w_csx rfl rfl (Nat.le_of_ble_eq_true rfl) (Nat.le_of_ble_eq_true rfl) (by decide) rfl (r_checkQ0 q (by assumption)) rfl
    · startR M_ML_price
      gg
      cV g2
      gg
      cS (r_checkQ1 q (by omega))
      gg
      obtain ⟨a, b, d, can, z1, -⟩ := id g1
      refine w_cv rfl rfl rfl (hp_at z1) (Nat.le_of_ble_eq_true rfl) (Nat.le_of_ble_eq_true rfl) (r_priceOf g1 (e3.gs i (by omega)) q (by omega)) ?_
      exact w_lret rfl rfl rfl
end CG
end
section
def ax_col (c : ax_St) (G : ax_Gr) : Nat → Nat × (Nat → Int32) × (Nat → Int32)
  | 0 => (0, c.rt, c.re)
  | t + 1 => if 0 < ax_ex c G t then ((ax_col c G t).1 + 1, upd (ax_col c G t).2.1 (ax_col c G t).1 (nI t), upd (ax_col c G t).2.2 (ax_col c G t).1 (Int32.ofInt (ax_ex c G t))) else ax_col c G t
theorem ax_col_le (c : ax_St) (G : ax_Gr) : ∀ t, (ax_col c G t).1 ≤ t := by
  intro t
  induction t with
  | zero => exact Nat.le_refl _
  | succ t ih =>
    unfold ax_col
    split
    · exact Nat.succ_le_succ ih
    · omega
def ax_lat (p : Nat → Bool) : Nat → Int32
  | 0 => -1
  | q + 1 => if p q = true then nI q else ax_lat p q
theorem ax_lat_r (p : Nat → Bool) : ∀ n, n ≤ 1000 → (ax_lat p n = -1) ∨ ∃ q, q < n ∧ ax_lat p n = nI q ∧ p q = true := by
  intro n
  induction n with
  | zero => exact fun _ => Or.inl rfl
  | succ n ih =>
    intro hn
    unfold ax_lat
    split
    · exact Or.inr ⟨n, by omega, rfl, by assumption⟩
    · rcases ih (by omega) with h | ⟨q, h1, h2, h3⟩
      · exact Or.inl h
      · exact Or.inr ⟨q, by omega, h2, h3⟩
theorem ax_lst_r (p : Nat → Bool) : ∀ d k, k + d ≤ 1000 → (ax_lst p d k = -1) ∨ ∃ q, k ≤ q ∧ q < k + d ∧ ax_lst p d k = nI q ∧ p q = true := by
  intro d
  induction d with
  | zero => exact fun k _ => Or.inl rfl
  | succ d ih =>
    intro k hk
    unfold ax_lst
    split
    · exact Or.inr ⟨k, by omega, by omega, rfl, by assumption⟩
    · rcases ih (k + 1) (by omega) with h | ⟨q, h0, h1, h2, h3⟩
      · exact Or.inl h
      · exact Or.inr ⟨q, by omega, by omega, h2, h3⟩
theorem ax_least_r {c : ax_St} {F : ax_Of} (h : F.n ≤ 4) : (ax_least c F = -1) ∨ ∃ q, q < F.n ∧ ax_least c F = nI q := by
  rcases ax_lst_r (fun k => decide (ax_made c (F.g k))) F.n 0 (by omega) with h | ⟨q, -, h1, h2, -⟩
  · exact Or.inl h
  · exact Or.inr ⟨q, by omega, h2⟩
theorem nI_ne {q : Nat} (h : q < 2147483648) : ¬ nI q = -1 := by
  intro z
  have := congrArg Int32.toInt z
  rw [q_nI' h] at this
  have h2 : ((-1 : Int32)).toInt = -1 := rfl
  omega
section CH
variable {L : Nat} {xs : Nat → Int32} {c : ax_St} {m : ax_Mo} {o : Nat → Int64} {pool : List (Option ax_C)} {u : Nat} {h : ax_H}
def ax_cst (c : ax_St) (G : ax_Gr) (t : Nat) : ax_St := { c with rn := (ax_col c G t).1, rt := (ax_col c G t).2.1, re := (ax_col c G t).2.2 }
theorem r_collect {g : Nat} {G : ax_Gr} (hg : GradeAt pool g G) (hok : GradeOk G) (hb : BoardOk c) :
    ax_run m_Re_collect [.ref 11, .ref 5, .ref (g + 40)] (ax_hp L xs c m o pool, u) (.inl (some (.int (nI (ax_col c G c.bn).1))), (ax_hp L xs (ax_cst c G c.bn) m o pool, u)) := by
  have hn := hb.n
  have l2 : ∀ (d k : Nat), k + d = 60 → c.bn ≤ k → ax_wp ax_run M_Re_collect (fun r' => r' = (.inl (some (.int (nI (ax_col c G c.bn).1))), (ax_hp L xs (ax_cst c G c.bn) m o pool, u))) 7 [(0, .ref 11), (1, .ref 5), (2, .ref (g + 40)), (3, .int (nI k))] [] (ax_hp L xs (ax_cst c G c.bn) m o pool, u) := by
    intro d
    induction d with
    | zero =>
      intro k hk hkb
      go
      ir
      rfl
    | succ d ih =>
      intro k hk hkb
      go
      cV (r_Bd_excess0 (c := ax_cst c G c.bn) hn k hkb (by omega))
      gg
      refine w_if1 rfl (fun h5 => ?_) (fun h5 => absurd (show (0 : Int32) ≤ 0 from by decide) h5)
      gto 7
      exact w_lv (ih (k + 1) (by omega) (by omega)) rfl ⟨rfl, rfl, rfl, rfl, trivial⟩
  have l1 : ∀ (d k : Nat), k + d = c.bn → ax_wp ax_run M_Re_collect (fun r' => r' = (.inl (some (.int (nI (ax_col c G c.bn).1))), (ax_hp L xs (ax_cst c G c.bn) m o pool, u))) 7 [(0, .ref 11), (1, .ref 5), (2, .ref (g + 40)), (3, .int (nI k))] [] (ax_hp L xs (ax_cst c G k) m o pool, u) := by
    intro d
    induction d with
    | zero =>
      intro k hk
      have : k = c.bn := by omega
      subst this
      exact l2 (60 - c.bn) c.bn (by omega) (Nat.le_refl _)
    | succ d ih =>
      intro k hk
      have hle := ax_col_le c G k
      have hx := ax_ex_b hb hok (t := k) (by omega)
      have hb' : BoardOk (ax_cst c G k) := ⟨hb.n, hb.k, hb.v⟩
      go
      cV (r_Bd_excess1 (c := ax_cst c G k) hg hok hb' k (by show k < c.bn; omega))
      gg
      have hex : ax_ex (ax_cst c G k) G k = ax_ex c G k := rfl
      rw [hex]
      refine w_if1 rfl (fun h5 => ?_) (fun h5 => ?_)
      · have h6 : ¬ 0 < ax_ex c G k := by
          have := Int32.le_iff_toInt_le.mp h5
          rw [q_ofI] at this
          have h0 : ((0 : Int32)).toInt = 0 := rfl
          omega
        gto 7
        have e : ax_cst c G (k + 1) = ax_cst c G k := by
          unfold ax_cst
          rw [show ax_col c G (k + 1) = ax_col c G k from if_neg h6]
        have := ih (k + 1) (by omega)
        rw [e] at this
        exact w_lv this rfl ⟨rfl, rfl, rfl, rfl, trivial⟩
      · have h6 : 0 < ax_ex c G k := by
          have h7 : ¬ (Int32.ofInt (ax_ex c G k)).toInt ≤ ((0 : Int32)).toInt := fun z => h5 (Int32.le_iff_toInt_le.mpr z)
          rw [q_ofI] at h7
          have h0 : ((0 : Int32)).toInt = 0 := rfl
          omega
        gg
        refine w_ias rfl rfl rfl (by show (ax_col c G k).1 < 60; omega) (by decide) ?_
        gg
        refine w_ias rfl rfl rfl (by show (ax_col c G k).1 < 60; omega) (by decide) ?_
        gto 7
        have e : ax_cst c G (k + 1) = { c with rn := (ax_col c G k).1 + 1, rt := upd (ax_col c G k).2.1 (ax_col c G k).1 (nI k), re := upd (ax_col c G k).2.2 (ax_col c G k).1 (Int32.ofInt (ax_ex c G k)) } := by
          unfold ax_cst
          rw [show ax_col c G (k + 1) = _ from if_pos h6]
        have := ih (k + 1) (by omega)
        rw [e] at this
        exact w_lv this rfl ⟨rfl, rfl, rfl, rfl, trivial⟩
  startR M_Re_collect
  gto 7
  exact w_lv (l1 c.bn 0 (by omega)) rfl ⟨rfl, rfl, rfl, rfl, trivial⟩
def sp_run (c : ax_St) (Fs : Nat → ax_Of) (k j : Int32) : ax_SR := if ¬ (0 ≤ k.toInt ∧ k.toInt < c.told ∧ 0 ≤ j.toInt ∧ j.toInt < (Fs k.toInt.toNat).n) then .inr 0 else .inl (.int (nI (ax_col c ((Fs k.toInt.toNat).g j.toInt.toNat) c.bn).1), ax_cst c ((Fs k.toInt.toNat).g j.toInt.toNat) c.bn)
theorem r_run {Fs : Nat → ax_Of} (hF : OffOk c pool Fs) (hb : BoardOk c) (k j : Int32) : ax_run m_ML_run [.ref 1, .int k, .int j] (ax_hp L xs c m o pool, u) (ax_out L xs m o pool u c (sp_run c Fs k j)) := by
  have hn := hF.n
  unfold sp_run
  split
  · startR M_ML_run
    gg
    exact w_cvx rfl rfl rfl rfl (Nat.le_of_ble_eq_true rfl) (Nat.le_of_ble_eq_true rfl) (by decide) rfl (r_gradeOf0 hF k j (by assumption)) rfl
  · rename_i h0
    obtain ⟨n, rfl, hn1, hn2⟩ := q_nat (x := k) (by omega)
    obtain ⟨i, rfl, hi1, hi2⟩ := q_nat (x := j) (by omega)
    rw [← hn1, ← hi1] at h0 ⊢
    simp only [Int.toNat_natCast] at h0 ⊢
    obtain ⟨g, g1, g2⟩ := r_gradeOf1 (L := L) (xs := xs) (m := m) (o := o) (u := u) hF n i (by omega) (by omega)
    obtain ⟨-, -, -, e3⟩ := hF.at_ n (by omega)
    startR M_ML_run
    gg
    cV g2
    cV (r_collect g1 (e3.gs i (by omega)) hb)
    ir
    rfl
def sp_quote (c : ax_St) (k : Int32) (d : Int64) : ax_SR := if ¬ (0 ≤ k.toInt ∧ k.toInt < c.told) then .inr 0 else if c.qn = 10 then .inl (.int (-1), c)
  else .inl (.int (nI c.qn), { c with qm := upd c.qm c.qn k, qo := va_up c.qo c.qn (c.of k.toInt.toNat), qu := vp_updL c.qu c.qn d, qn := c.qn + 1 })
theorem r_quote {Fs : Nat → ax_Of} (hF : OffOk c pool Fs) (hq : c.qn ≤ 10) (k : Int32) (d : Int64) : ax_run m_ML_quote [.ref 1, .int k, .long d] (ax_hp L xs c m o pool, u) (ax_out L xs m o pool u c (sp_quote c k d)) := by
  have hn := hF.n
  unfold sp_quote
  split
  · startR M_ML_quote
    gg
    exact w_cvx rfl rfl rfl rfl (Nat.le_of_ble_eq_true rfl) (Nat.le_of_ble_eq_true rfl) (by decide) rfl (r_offerOf0 hF k (by assumption)) rfl
  · rename_i h0
    obtain ⟨n, rfl, hn1, hn2⟩ := q_nat (x := k) (by omega)
    rw [← hn1]
    simp only [Int.toNat_natCast]
    obtain ⟨i, e1, e2, e3⟩ := hF.at_ n (by omega)
    obtain ⟨a, gf, z1, -⟩ := id e2
    rw [e1]
    split
    · have ha : ax_run m_Qu_add [.ref 14, .int (nI n), .ref (i + 40), .long d] (ax_hp L xs c m o pool, u) (.inl (some (.int (-1))), (ax_hp L xs c m o pool, u)) := by
        startR M_Qu_add
        go
        ir
        rfl
      startR M_ML_quote
      gg
      cV (r_offerOf1 (by omega) e1)
      gg
      cV ha
      ir
      rfl
    · have ha : ax_run m_Qu_add [.ref 14, .int (nI n), .ref (i + 40), .long d] (ax_hp L xs c m o pool, u) (.inl (some (.int (nI c.qn))), (ax_hp L xs { c with qm := upd c.qm c.qn (nI n), qo := va_up c.qo c.qn (some (i + 40)), qu := vp_updL c.qu c.qn d, qn := c.qn + 1 } m o pool, u)) := by
        startR M_Qu_add
        go
        refine w_ias rfl rfl rfl (by omega) (by decide) ?_
        gg
        refine w_aas rfl rfl (Or.inl rfl) rfl (by omega) (by decide) z1 ?_
        gg
        refine w_las rfl rfl rfl (by omega) (by decide) ?_
        gg
        ir
        rfl
      startR M_ML_quote
      gg
      cV (r_offerOf1 (by omega) e1)
      gg
      cV ha
      ir
      rfl
def ax_latest (c : ax_St) (k : Int32) (d : Int64) : Int32 := ax_lat (fun q => decide (c.qm q = k ∧ d.toInt ≤ (c.qu q).toInt)) c.qn
theorem r_latest (hq : c.qn ≤ 10) (k : Int32) (d : Int64) : ax_run m_Qu_latest [.ref 14, .int k, .long d] (ax_hp L xs c m o pool, u) (.inl (some (.int (ax_latest c k d))), (ax_hp L xs c m o pool, u)) := by
  have lp : ∀ (n : Nat) (x : Int32), n ≤ c.qn → x.toInt = (n : Int) - 1 → ax_wp ax_run M_Qu_latest (fun r' => r' = (.inl (some (.int (ax_lat (fun q => decide (c.qm q = k ∧ d.toInt ≤ (c.qu q).toInt)) n))), (ax_hp L xs c m o pool, u))) 8 [(0, .ref 14), (1, .int k), (2, .long d), (4, .int x)] [] (ax_hp L xs c m o pool, u) := by
    intro n
    induction n with
    | zero =>
      intro x hn hx
      go
      ir
      rfl
    | succ n ih =>
      intro x hn hx
      have hx' : x = nI n := q_nIof (by omega) (by omega)
      subst hx'
      go
      refine w_ia rfl rfl rfl (by omega) (by decide) ?_
      gg
      refine w_if2 rfl (fun h5 => ?_) (fun h5 => ?_)
      · have h6 : ¬ c.qm n = k := h5
        gto 8
        refine w_lv (w_post (ih _ (by omega) (by rw [q_add, q_nI, q_ofI]; omega)) (fun r hr => ?_)) rfl ⟨rfl, rfl, rfl, rfl, trivial⟩
        rw [hr]
        show _ = (Sum.inl (some (Value.int (if decide (c.qm n = k ∧ d.toInt ≤ (c.qu n).toInt) = true then nI n else _))), _)
        rw [if_neg (by rw [decide_eq_true_eq]; exact fun z => h6 z.1)]
      · have h6 : c.qm n = k := Decidable.not_not.mp h5
        gg
        refine w_la rfl rfl rfl (by omega) (by decide) ?_
        gg
        refine w_if1 rfl (fun h7 => ?_) (fun h7 => ?_)
        · have h8 := c_Llt.mp h7
          gto 8
          refine w_lv (w_post (ih _ (by omega) (by rw [q_add, q_nI, q_ofI]; omega)) (fun r hr => ?_)) rfl ⟨rfl, rfl, rfl, rfl, trivial⟩
          rw [hr]
          show _ = (Sum.inl (some (Value.int (if decide (c.qm n = k ∧ d.toInt ≤ (c.qu n).toInt) = true then nI n else _))), _)
          rw [if_neg (by rw [decide_eq_true_eq]; omega)]
        · have h8 : ¬ (c.qu n).toInt < d.toInt := fun z => h7 (c_Llt.mpr z)
          gg
          ir
          show _ = (Sum.inl (some (Value.int (if decide (c.qm n = k ∧ d.toInt ≤ (c.qu n).toInt) = true then nI n else _))), _)
          rw [if_pos (by rw [decide_eq_true_eq]; exact ⟨h6, by omega⟩)]
  startR M_Qu_latest
  gto 8
  exact w_lv (lp c.qn (nI c.qn - Int32.ofInt 1) (Nat.le_refl _) (by rw [q_sub, q_nI, q_ofI]; omega)) rfl ⟨rfl, rfl, rfl, rfl, trivial⟩
end CH
end
section
section CI
variable {L : Nat} {xs : Nat → Int32} {c : ax_St} {m : ax_Mo} {o : Nat → Int64} {pool : List (Option ax_C)} {u : Nat} {h : ax_H}
theorem r_offerAt0 (hq : c.qn ≤ 10) (k : Int32) (hk : k.toInt < 0) : ax_run m_Qu_offerAt [.ref 14, .int k] (ax_hp L xs c m o pool, u) (.inl (some .null), (ax_hp L xs c m o pool, u)) := by
  startR M_Qu_offerAt
  go
  exact w_aret rfl rfl rfl rfl
theorem r_offerAt1 (hq : c.qn ≤ 10) (k i : Nat) (hk : k < c.qn) (hi : c.qo k = some (i + 40)) : ax_run m_Qu_offerAt [.ref 14, .int (nI k)] (ax_hp L xs c m o pool, u) (.inl (some (.ref (i + 40))), (ax_hp L xs c m o pool, u)) := by
  startR M_Qu_offerAt
  go
  refine w_aa rfl rfl (Or.inl rfl) rfl (by omega) (by decide) ?_
  rw [hi]
  exact w_aret rfl rfl rfl rfl
def ax_row (f : Nat → Int32) (r : Nat) (k cl q dy : Int32) (p : Int64) (l : Int32) : Nat → Int32 :=
  upd (upd (upd (upd (upd (upd (upd f r k) (r + 1) cl) (r + 2) q) (r + 3) dy) (r + 4) (p / 1000).toInt32) (r + 5) (p - p / 1000 * 1000).toInt32) (r + 6) l
theorem r_Or_add0 (k cl q dy : Int32) (p : Int64) (l : Int32) (hn : c.on = 20) : ax_run m_Or_add [.ref 18, .int k, .int cl, .int q, .int dy, .long p, .int l] (ax_hp L xs c m o pool, u) (.inl (some (.int (-1))), (ax_hp L xs c m o pool, u)) := by
  startR M_Or_add
  go
  ir
  rfl
theorem r_Or_add1 (k cl q dy : Int32) (p : Int64) (l : Int32) (hn : c.on < 20) : ax_run m_Or_add [.ref 18, .int k, .int cl, .int q, .int dy, .long p, .int l] (ax_hp L xs c m o pool, u) (.inl (some (.int (nI c.on))), (ax_hp L xs { c with parts := ax_row c.parts (7 * c.on) k cl q dy p l, on := c.on + 1 } m o pool, u)) := by
  startR M_Or_add
  gto 6
  brp
  gto 18
  refine w_eqI (y := nI (7 * c.on)) (by zo) ?_
  gg
  refine w_ias rfl rfl rfl (by omega) (by decide) ?_
  gg
  refine w_ias (j := 7 * c.on + 1) rfl rfl rfl (by omega) (by decide) ?_
  gg
  refine w_ias (j := 7 * c.on + 2) rfl rfl (by zo) (by omega) (by decide) ?_
  gg
  refine w_ias (j := 7 * c.on + 3) rfl rfl (by zo) (by omega) (by decide) ?_
  gg
  refine w_ldiv rfl (by decide) ?_
  gg
  refine w_ias (j := 7 * c.on + 4) rfl rfl (by zo) (by omega) (by decide) ?_
  gg
  refine w_lrem rfl (by decide) ?_
  gg
  refine w_ias (j := 7 * c.on + 5) rfl rfl (by zo) (by omega) (by decide) ?_
  gg
  refine w_ias (j := 7 * c.on + 6) rfl rfl (by zo) (by omega) (by decide) ?_
  gg
  ir
  rfl
def ax_ofr (c : ax_St) (Fs Qs : Nat → ax_Of) (k : Nat) (l : Int32) : ax_Of := if l.toInt < 0 then Fs k else Qs l.toInt.toNat
def sp_order2 (c : ax_St) (k : Int32) (q : Int64) (l : Int32) (F : ax_Of) : ax_SR :=
  if ax_least c F = -1 then .inl (.int (-1), c) else if c.on = 20 then .inl (.int (-1), c)
  else .inl (.int (nI c.on), { c with parts := ax_row c.parts (7 * c.on) k (ax_least c F) q.toInt32 (F.g (ax_least c F).toInt.toNat).dy (Int64.ofInt (ax_pri (F.g (ax_least c F).toInt.toNat) q)) l, on := c.on + 1 })
def sp_order (c : ax_St) (Fs Qs : Nat → ax_Of) (k : Int32) (q d : Int64) : ax_SR :=
  if ¬ (0 ≤ k.toInt ∧ k.toInt < c.told) then .inr 0 else if ¬ (1 ≤ q.toInt ∧ q.toInt ≤ 1000000) then .inr 1
  else sp_order2 c k q (ax_latest c k d) (ax_ofr c Fs Qs k.toInt.toNat (ax_latest c k d))
theorem r_order {Fs Qs : Nat → ax_Of} (hF : OffOk c pool Fs) (hQ : QuOk c pool Qs) (hb : BoardOk c) (ho : c.on ≤ 20) (k : Int32) (q d : Int64) : ax_run m_ML_order [.ref 1, .int k, .long q, .long d] (ax_hp L xs c m o pool, u) (ax_out L xs m o pool u c (sp_order c Fs Qs k q d)) := by
  have hn := hF.n
  have hqn := hQ.n
  unfold sp_order
  split
  · startR M_ML_order
    gg
    exact w_cvx rfl rfl rfl rfl (Nat.le_of_ble_eq_true rfl) (Nat.le_of_ble_eq_true rfl) (by decide) rfl (r_offerOf0 hF k (by assumption)) rfl
  · rename_i h0
    obtain ⟨n, rfl, hn1, hn2⟩ := q_nat (x := k) (by omega)
    have hnn : (nI n).toInt.toNat = n := by rw [← hn1]; rfl
    obtain ⟨i, e1, e2, e3⟩ := hF.at_ n (by omega)
    split
    · startR M_ML_order
      gg
      cV (r_offerOf1 (by omega) e1)
      gg
      exact w_csx rfl rfl (Nat.le_of_ble_eq_true rfl) (Nat.le_of_ble_eq_true rfl) (by decide) rfl (r_checkQ0 q (by assumption)) rfl
    · rename_i h9
      have tail : ∀ (F : ax_Of) (f : Nat) (l : Int32), OfferAt pool f F → OfferOk F → ax_wp ax_run M_ML_order (fun r' => r' = ax_out L xs m o pool u c (sp_order2 c (nI n) q l F)) 48 [(0, .ref 1), (1, .int (nI n)), (2, .long q), (7, .int l), (9, .ref (f + 40))] [] (ax_hp L xs c m o pool, u) := by
        intro F f l hf hok
        obtain ⟨a, gf, z1, -⟩ := id hf
        gg
        refine w_cv rfl rfl rfl (hp_at z1) (Nat.le_of_ble_eq_true rfl) (Nat.le_of_ble_eq_true rfl) (r_leastFor hf hok hb) ?_
        dsimp only [Option.toList, List.drop, List.cons_append, List.nil_append]
        gg
        rcases ax_least_r (c := c) hok.n4 with hl | ⟨b, hb1, hl⟩
        · rw [hl]
          refine w_cv rfl rfl rfl (hp_at z1) (Nat.le_of_ble_eq_true rfl) (Nat.le_of_ble_eq_true rfl) (r_gradeAt0 hf hok (-1) (fun z => absurd z.1 (by decide))) ?_
          dsimp only [Option.toList, List.drop, List.cons_append, List.nil_append]
          gg
          ir
          unfold sp_order2
          rw [if_pos hl]
          rfl
        · have hn4 := hok.n4
          have hbb : (nI b).toInt.toNat = b := by rw [q_nI' (by omega)]; rfl
          obtain ⟨g, g1, g2⟩ := r_gradeAt1 (L := L) (xs := xs) (c := c) (m := m) (o := o) (u := u) hf hok b hb1
          rw [hl]
          refine w_cv rfl rfl rfl (hp_at z1) (Nat.le_of_ble_eq_true rfl) (Nat.le_of_ble_eq_true rfl) g2 ?_
          dsimp only [Option.toList, List.drop, List.cons_append, List.nil_append]
          gg
          obtain ⟨ga, gb, gd, can, y1, -⟩ := id g1
          refine w_get rfl rfl (hp_at y1) rfl ?_
          gg
          refine w_cv rfl rfl rfl (hp_at y1) (Nat.le_of_ble_eq_true rfl) (Nat.le_of_ble_eq_true rfl) (r_priceOf g1 (hok.gs b hb1) q (by omega)) ?_
          dsimp only [Option.toList, List.drop, List.cons_append, List.nil_append]
          gg
          unfold sp_order2
          rw [if_neg (by rw [hl]; exact nI_ne (by omega)), hl, hbb]
          split
          · cV (r_Or_add0 (nI n) (nI b) q.toInt32 (F.g b).dy (Int64.ofInt (ax_pri (F.g b) q)) l (by assumption))
            ir
            rfl
          · cV (r_Or_add1 (nI n) (nI b) q.toInt32 (F.g b).dy (Int64.ofInt (ax_pri (F.g b) q)) l (by omega))
            ir
            rfl
      rw [hnn]
      startR M_ML_order
      gg
      cV (r_offerOf1 (by omega) e1)
      gg
      cS (r_checkQ1 q (by omega))
      gg
      cV (r_latest hqn (nI n) d)
      gg
      rcases ax_lat_r (fun q => decide (c.qm q = nI n ∧ d.toInt ≤ (c.qu q).toInt)) c.qn (by omega) with hl | ⟨b, hb1, hl, -⟩
      · have hl' : ax_latest c (nI n) d = -1 := hl
        rw [hl']
        cV (r_offerAt0 hqn (-1) (by decide))
        gto 48
        refine w_lv (tail (Fs n) i (-1) e2 e3) rfl ⟨rfl, rfl, rfl, rfl, rfl, trivial⟩
      · have hl' : ax_latest c (nI n) d = nI b := hl
        have hbb : (nI b).toInt.toNat = b := by rw [q_nI' (by omega)]; rfl
        obtain ⟨i2, f1, f2, f3⟩ := hQ.at_ b hb1
        rw [hl']
        cV (r_offerAt1 hqn b i2 hb1 f1)
        gto 48
        have e : ax_ofr c Fs Qs n (nI b) = Qs b := by
          unfold ax_ofr
          rw [if_neg (by rw [q_nI' (by omega)]; omega), hbb]
        rw [e]
        refine w_lv (tail (Qs b) i2 (nI b) f2 f3) rfl ⟨rfl, rfl, rfl, rfl, rfl, trivial⟩
/-- the best maker so far, and its price -/
def ax_bst (c : ax_St) (Fs : Nat → ax_Of) (q : Int64) : Nat → Int32 × Int64
  | 0 => (-1, 0)
  | k + 1 => if ax_least c (Fs k) = -1 then ax_bst c Fs q k
    else if (ax_bst c Fs q k).1 = -1 ∨ ax_pri ((Fs k).g (ax_least c (Fs k)).toInt.toNat) q < (ax_bst c Fs q k).2.toInt then (nI k, Int64.ofInt (ax_pri ((Fs k).g (ax_least c (Fs k)).toInt.toNat) q)) else ax_bst c Fs q k
def sp_best (c : ax_St) (Fs : Nat → ax_Of) (q : Int64) : ax_SR := if ¬ (1 ≤ q.toInt ∧ q.toInt ≤ 1000000) then .inr 1 else .inl (.int (ax_bst c Fs q c.told).1, c)
theorem ax_pri_b {G : ax_Gr} (hok : GradeOk G) {q : Int64} (hq : 1 ≤ q.toInt ∧ q.toInt ≤ 1000000) : 0 ≤ ax_pri G q ∧ ax_pri G q ≤ 1000000000000 := by
  have hs1 := hok.s1
  have hf0 := hok.fm 0 (by omega)
  have hpb : 1 ≤ ax_paid G q ∧ ax_paid G q ≤ 1000000 := by unfold ax_paid; split <;> omega
  have hj : ∀ n, 1 ≤ n → ax_jx (fun s => decide ((G.fr s).toInt ≤ ax_paid G q)) n < n := by
    intro n
    induction n with
    | zero => intro z; omega
    | succ n ihn =>
      intro _
      unfold ax_jx
      split
      · omega
      · by_cases hz : 1 ≤ n
        · have := ihn hz; omega
        · have : n = 0 := by omega
          subst this
          exact Nat.succ_pos 0
  have hc := hok.cm _ (hj _ hs1)
  unfold ax_pri
  generalize G.ce (ax_jx (fun s => decide ((G.fr s).toInt ≤ ax_paid G q)) G.st) = ce at hc
  have hm1 : ax_paid G q * ce.toInt ≤ 1000000 * 1000000 := Int.mul_le_mul (by omega) (by omega) (by omega) (by omega)
  have hm2 : 0 ≤ ax_paid G q * ce.toInt := Int.mul_nonneg (by omega) (by omega)
  omega
theorem r_best {Fs : Nat → ax_Of} (hF : OffOk c pool Fs) (hb : BoardOk c) (q : Int64) : ax_run m_ML_best [.ref 1, .long q] (ax_hp L xs c m o pool, u) (ax_out L xs m o pool u c (sp_best c Fs q)) := by
  have hn := hF.n
  unfold sp_best
  split
  · startR M_ML_best
    gg
    exact w_csx rfl rfl (Nat.le_of_ble_eq_true rfl) (Nat.le_of_ble_eq_true rfl) (by decide) rfl (r_checkQ0 q (by assumption)) rfl
  · rename_i h9
    have l2 : ∀ (e k : Nat), k + e = 4 → c.told ≤ k → ax_wp ax_run M_ML_best (fun r' => r' = ax_out L xs m o pool u c (.inl (.int (ax_bst c Fs q c.told).1, c))) 12 [(0, .ref 1), (1, .long q), (3, .int (ax_bst c Fs q c.told).1), (4, .long (ax_bst c Fs q c.told).2), (6, .int (nI k))] [] (ax_hp L xs c m o pool, u) := by
      intro e
      induction e with
      | zero =>
        intro k hk hkt
        go
        ir
        rfl
      | succ e ih =>
        intro k hk hkt
        go
        refine w_aa rfl rfl (Or.inl rfl) rfl (by omega) (by decide) ?_
        rw [hF.no k hkt (by omega)]
        gto 12
        exact w_lv (ih (k + 1) (by omega) (by omega)) rfl ⟨rfl, rfl, rfl, rfl, rfl, trivial⟩
    have l1 : ∀ (e k : Nat), k + e = c.told → ax_wp ax_run M_ML_best (fun r' => r' = ax_out L xs m o pool u c (.inl (.int (ax_bst c Fs q c.told).1, c))) 12 [(0, .ref 1), (1, .long q), (3, .int (ax_bst c Fs q k).1), (4, .long (ax_bst c Fs q k).2), (6, .int (nI k))] [] (ax_hp L xs c m o pool, u) := by
      intro e
      induction e with
      | zero =>
        intro k hk
        have : k = c.told := by omega
        subst this
        exact l2 (4 - c.told) c.told (by omega) (Nat.le_refl _)
      | succ e ih =>
        intro k hk
        obtain ⟨i, e1, e2, e3⟩ := hF.at_ k (by omega)
        obtain ⟨a, gf, z1, -⟩ := id e2
        go
        refine w_aa rfl rfl (Or.inl rfl) rfl (by omega) (by decide) ?_
        rw [e1]
        gg
        refine w_cv rfl rfl rfl (hp_at z1) (Nat.le_of_ble_eq_true rfl) (Nat.le_of_ble_eq_true rfl) (r_leastFor e2 e3 hb) ?_
        dsimp only [Option.toList, List.drop, List.cons_append, List.nil_append]
        have ihk := ih (k + 1) (by omega)
        rcases ax_least_r (c := c) e3.n4 with hl | ⟨b, hb1, hl⟩
        · rw [hl]
          refine w_cv rfl rfl rfl (hp_at z1) (Nat.le_of_ble_eq_true rfl) (Nat.le_of_ble_eq_true rfl) (r_gradeAt0 e2 e3 (-1) (fun z => absurd z.1 (by decide))) ?_
          dsimp only [Option.toList, List.drop, List.cons_append, List.nil_append]
          gto 12
          have eb : ax_bst c Fs q (k + 1) = ax_bst c Fs q k := if_pos hl
          rw [eb] at ihk
          exact w_lv ihk rfl ⟨rfl, rfl, rfl, rfl, rfl, trivial⟩
        · have hn4 := e3.n4
          have hbb : (nI b).toInt.toNat = b := by rw [q_nI' (by omega)]; rfl
          obtain ⟨g, g1, g2⟩ := r_gradeAt1 (L := L) (xs := xs) (c := c) (m := m) (o := o) (u := u) e2 e3 b hb1
          have hpr := r_priceOf (L := L) (xs := xs) (c := c) (m := m) (o := o) (u := u) g1 (e3.gs b hb1) q (by omega)
          have hpb := ax_pri_b (e3.gs b hb1) (q := q) (by omega)
          have eb : ax_bst c Fs q (k + 1) = (if (ax_bst c Fs q k).1 = -1 ∨ ax_pri ((Fs k).g b) q < (ax_bst c Fs q k).2.toInt then (nI k, Int64.ofInt (ax_pri ((Fs k).g b) q)) else ax_bst c Fs q k) := by
            show (if ax_least c (Fs k) = -1 then _ else _) = _
            rw [if_neg (by rw [hl]; exact nI_ne (by omega)), hl, hbb]
          rw [eb] at ihk
          obtain ⟨ga, gb, gd, can, y1, -⟩ := id g1
          rw [hl]
          refine w_cv rfl rfl rfl (hp_at z1) (Nat.le_of_ble_eq_true rfl) (Nat.le_of_ble_eq_true rfl) g2 ?_
          dsimp only [Option.toList, List.drop, List.cons_append, List.nil_append]
          gg
          refine w_if2 rfl (fun h5 => ?_) (fun h5 => ?_)
          · rw [if_pos (Or.inl (show (ax_bst c Fs q k).1 = -1 from h5))] at ihk
            gg
            refine w_cv rfl rfl rfl (hp_at y1) (Nat.le_of_ble_eq_true rfl) (Nat.le_of_ble_eq_true rfl) hpr ?_
            dsimp only [Option.toList, List.drop, List.cons_append, List.nil_append]
            gto 12
            exact w_lv ihk rfl ⟨rfl, rfl, rfl, rfl, rfl, trivial⟩
          · gg
            refine w_cv rfl rfl rfl (hp_at y1) (Nat.le_of_ble_eq_true rfl) (Nat.le_of_ble_eq_true rfl) hpr ?_
            dsimp only [Option.toList, List.drop, List.cons_append, List.nil_append]
            gg
            refine w_if1 rfl (fun h7 => ?_) (fun h7 => ?_)
            · have h8 := c_Lge.mp h7
              rw [q_ofIL (by omega) (by omega)] at h8
              rw [if_neg (show ¬ ((ax_bst c Fs q k).1 = -1 ∨ ax_pri ((Fs k).g b) q < (ax_bst c Fs q k).2.toInt) from fun z => z.elim h5 (fun z => absurd z (by omega)))] at ihk
              gto 12
              exact w_lv ihk rfl ⟨rfl, rfl, rfl, rfl, rfl, trivial⟩
            · have h8 : ¬ (ax_bst c Fs q k).2.toInt ≤ (Int64.ofInt (ax_pri ((Fs k).g b) q)).toInt := fun z => h7 (c_Lge.mpr z)
              rw [q_ofIL (by omega) (by omega)] at h8
              rw [if_pos (show (ax_bst c Fs q k).1 = -1 ∨ ax_pri ((Fs k).g b) q < (ax_bst c Fs q k).2.toInt from Or.inr (by omega))] at ihk
              gg
              refine w_cv rfl rfl rfl (hp_at y1) (Nat.le_of_ble_eq_true rfl) (Nat.le_of_ble_eq_true rfl) hpr ?_
              dsimp only [Option.toList, List.drop, List.cons_append, List.nil_append]
              gto 12
              exact w_lv ihk rfl ⟨rfl, rfl, rfl, rfl, rfl, trivial⟩
    startR M_ML_best
    gg
    cS (r_checkQ1 q (by omega))
    gto 12
    exact w_lv (l1 c.told 0 (by omega)) rfl ⟨rfl, rfl, rfl, rfl, rfl, trivial⟩
end CI
end
section
/-! the reference's side of the offers -/
structure BRel (c : ax_St) (m : ax_Mo) : Prop where
  n : m.things = c.bn
  k : ∀ t, t < c.bn → m.kinds t = c.kinds t
  v : ∀ t, t < c.bn → (m.values t).toInt = (c.values t).toInt
  l : ∀ t, t < c.bn → m.layers t = c.layers t
  x : ∀ t, t < c.bn → (m.x t).toInt = (c.xs t).toInt
  y : ∀ t, t < c.bn → (m.y t).toInt = (c.ys t).toInt
structure NumAt (m : ax_Mo) (p : Nat) (F : ax_Of) : Prop where
  cl : m.classes p = nI F.n
  lm : ∀ k, k < F.n → ∀ j, j < 6 → (m.numbers (64 * p + 16 * k + j)).toInt = ((F.g k).lim j).toInt
  st : ∀ k, k < F.n → (m.numbers (64 * p + 16 * k + 6)).toInt = (F.g k).st
  dy : ∀ k, k < F.n → (m.numbers (64 * p + 16 * k + 7)).toInt = (F.g k).dy.toInt
  fr : ∀ k, k < F.n → ∀ s, s < (F.g k).st → (m.numbers (64 * p + 16 * k + (8 + 2 * s))).toInt = ((F.g k).fr s).toInt
  ce : ∀ k, k < F.n → ∀ s, s < (F.g k).st → (m.numbers (64 * p + 16 * k + (9 + 2 * s))).toInt = ((F.g k).ce s).toInt
section MF
variable {L : Nat} {xs : Nat → Int32} {c : ax_St} {m : ax_Mo} {o : Nat → Int64} {pool : List (Option ax_C)} {u : Nat} {h : ax_H}
theorem n_place (p k : Nat) (hp : p < 100) (hk : k < 100) : ax_run m_Mo_place [.int (nI p), .int (nI k)] h (.inl (some (.int (nI (64 * p + 16 * k)))), h) := by
  startR M_Mo_place
  gg
  refine w_eqI (y := nI (64 * p + 16 * k)) (by ix) ?_
  ir
  rfl
theorem n_beyond {p : Nat} {F : ax_Of} (hN : NumAt m p F) (hok : OfferOk F) (hR : BRel c m) (hb : BoardOk c) (hp : p < 15) (k t : Nat) (hk : k < F.n) (ht : t < c.bn) :
    ax_run m_Mo_beyond [.ref 23, .int (nI p), .int (nI k), .int (nI t)] (ax_hp L xs c m o pool, u) (.inl (some (.long (Int64.ofInt (ax_ex c (F.g k) t)))), (ax_hp L xs c m o pool, u)) := by
  have hn4 := hok.n4
  have hbn := hb.n
  obtain ⟨d, hd0, hd1, hd2⟩ := q_nat (x := c.kinds t) (hb.k t ht).1
  have hd3 := (hb.k t ht).2
  have hv := hb.v t ht
  have hlm := hN.lm k hk d (by omega)
  have hlb := (hok.gs k hk).lm d (by omega)
  have hvt := hR.v t ht
  have hdd : (nI d).toInt.toNat = d := by rw [q_nI' hd2]; rfl
  have e0 : ax_ex c (F.g k) t = (if (d : Int) < 4 then ((F.g k).lim d).toInt - (c.values t).toInt else (c.values t).toInt - ((F.g k).lim d).toInt) := by
    unfold ax_ex
    rw [hd0, hdd, q_nI' hd2]
  rw [e0]
  clear e0 hdd
  startR M_Mo_beyond
  gg
  cS (n_place p k (by omega) (by omega))
  gg
  refine w_ia rfl rfl rfl (by omega) (by decide) ?_
  rw [hR.k t ht, hd0]
  gg
  refine w_la (j := 64 * p + 16 * k + d) rfl rfl (by ix) (by omega) (by decide) ?_
  gg
  refine w_ia rfl rfl rfl (by omega) (by decide) ?_
  rw [hR.k t ht, hd0]
  gg
  refine w_if2 rfl (fun h5 => ?_) (fun h5 => ?_)
  · gg
    refine w_la rfl rfl rfl (by omega) (by decide) ?_
    gg
    refine w_lret rfl rfl ?_
    rw [if_neg (by zo)]
    congr 4
    apply q_toL
    rw [q_subL, hlm, hvt]
    omega
  · gg
    refine w_la rfl rfl rfl (by omega) (by decide) ?_
    gg
    refine w_lret rfl rfl ?_
    rw [if_pos (by zo)]
    congr 4
    apply q_toL
    rw [q_subL, hlm, hvt]
    omega
end MF
end
section
section MF
variable {L : Nat} {xs : Nat → Int32} {c : ax_St} {m : ax_Mo} {o : Nat → Int64} {pool : List (Option ax_C)} {u : Nat} {h : ax_H}
theorem n_makes {p : Nat} {F : ax_Of} (hN : NumAt m p F) (hok : OfferOk F) (hR : BRel c m) (hb : BoardOk c) (hp : p < 15) (k : Nat) (hk : k < F.n) :
    ax_run m_Mo_makes [.ref 23, .int (nI p), .int (nI k)] (ax_hp L xs c m o pool, u) (.inl (some (.int (bI (ax_made c (F.g k))))), (ax_hp L xs c m o pool, u)) := by
  have hbn := hb.n
  have hrn := hR.n
  have lp : ∀ (d t : Nat) (b : Int32), t + d = c.bn → b = bI (∀ i, i < t → ax_ex c (F.g k) i ≤ 0) → ax_wp ax_run M_Mo_makes (fun r' => r' = (.inl (some (.int (bI (ax_made c (F.g k))))), (ax_hp L xs c m o pool, u))) 5 [(0, .ref 23), (1, .int (nI p)), (2, .int (nI k)), (3, .int b), (4, .int (nI t))] [] (ax_hp L xs c m o pool, u) := by
    intro d
    induction d with
    | zero =>
      intro t b ht hbb
      have : t = c.bn := by omega
      subst this
      go
      refine w_iret rfl rfl (by rw [hbb]; exact bI_nar) ?_
      rw [hbb]
      rfl
    | succ d ih =>
      intro t b ht hbb
      have hx := ax_ex_b hb (hok.gs k hk) (t := t) (by omega)
      subst hbb
      gto 11
      brp
      gg
      refine w_if1 rfl (fun h5 => ?_) (fun h5 => ?_)
      · have h6 := c_eq0.mp h5
        gto 5
        refine w_lv (ih (t + 1) (Int32.ofInt 0) (by omega) (bI_f (fun z => h6 (fun i hi => z i (by omega)))).symm) rfl ⟨rfl, rfl, rfl, rfl, rfl, trivial⟩
      · have h6 : ∀ i, i < t → ax_ex c (F.g k) i ≤ 0 := Decidable.not_not.mp (fun z => h5 (c_eq0.mpr z))
        gg
        cV (n_beyond hN hok hR hb hp k t hk (by omega))
        gg
        refine w_if1 rfl (fun h7 => ?_) (fun h7 => ?_)
        · have h8 := c_Lgt.mp h7
          rw [q_ofIL (by omega) (by omega), q_ofNL] at h8
          gto 5
          refine w_lv (ih (t + 1) (Int32.ofInt 0) (by omega) (bI_f (fun z => absurd (z t (by omega)) (by omega))).symm) rfl ⟨rfl, rfl, rfl, rfl, rfl, trivial⟩
        · have h8 : ¬ (Int64.ofNat 0).toInt < (Int64.ofInt (ax_ex c (F.g k) t)).toInt := fun z => h7 (c_Lgt.mpr z)
          rw [q_ofIL (by omega) (by omega), q_ofNL] at h8
          gto 5
          refine w_lv (ih (t + 1) (Int32.ofInt 1) (by omega) (bI_t (P := ∀ i, i < t + 1 → ax_ex c (F.g k) i ≤ 0) (fun i hi => ?_)).symm) rfl ⟨rfl, rfl, rfl, rfl, rfl, trivial⟩
          by_cases hit : i = t
          · subst hit; omega
          · exact h6 i (by omega)
  startR M_Mo_makes
  gto 5
  refine w_lv (lp c.bn 0 (Int32.ofInt 1) (by omega) (bI_t (fun i hi => absurd hi (by omega))).symm) rfl ⟨rfl, rfl, rfl, rfl, rfl, trivial⟩
theorem n_leastOf {p : Nat} {F : ax_Of} (hN : NumAt m p F) (hok : OfferOk F) (hR : BRel c m) (hb : BoardOk c) (hp : p < 15) :
    ax_run m_Mo_leastOf [.ref 23, .int (nI p)] (ax_hp L xs c m o pool, u) (.inl (some (.int (ax_least c F))), (ax_hp L xs c m o pool, u)) := by
  have hn4 := hok.n4
  have lp : ∀ (d k : Nat), k + d = F.n → ax_wp ax_run M_Mo_leastOf (fun r' => r' = (.inl (some (.int (ax_lst (fun k => decide (ax_made c (F.g k))) d k))), (ax_hp L xs c m o pool, u))) 2 [(0, .ref 23), (1, .int (nI p)), (2, .int (nI k))] [] (ax_hp L xs c m o pool, u) := by
    intro d
    induction d with
    | zero =>
      intro k hk
      gg
      refine w_ia rfl rfl rfl (by omega) (by decide) ?_
      rw [hN.cl]
      go
      ir
      rfl
    | succ d ih =>
      intro k hk
      gg
      refine w_ia rfl rfl rfl (by omega) (by decide) ?_
      rw [hN.cl]
      go
      cV (n_makes hN hok hR hb hp k (by omega))
      refine w_if1 rfl (fun h5 => ?_) (fun h5 => ?_)
      · have h6 := c_eq0.mp h5
        gto 2
        refine w_lv (l1 := [(0, .ref 23), (1, .int (nI p)), (2, .int (nI (k + 1)))]) (w_post (ih (k + 1) (by omega)) (fun r hr => ?_)) rfl ⟨rfl, rfl, rfl, trivial⟩
        rw [hr]
        simp only [ax_lst, h6, decide_false, Bool.false_eq_true, if_false]
      · have h6 : ax_made c (F.g k) := Decidable.not_not.mp (fun z => h5 (c_eq0.mpr z))
        gg
        ir
        simp only [ax_lst, h6, decide_true, if_true]
  startR M_Mo_leastOf
  gto 2
  exact w_lv (lp F.n 0 (by omega)) rfl ⟨rfl, rfl, rfl, trivial⟩
end MF
end
section
section MF
variable {L : Nat} {xs : Nat → Int32} {c : ax_St} {m : ax_Mo} {o : Nat → Int64} {pool : List (Option ax_C)} {u : Nat} {h : ax_H}
theorem n_isMaker (k : Int32) (hn : m.makers ≤ 4) : ax_run m_Mo_isMaker [.ref 23, .int k] (ax_hp L xs c m o pool, u) (.inl (some (.int (bI (0 ≤ k.toInt ∧ k.toInt < m.makers)))), (ax_hp L xs c m o pool, u)) := by
  startR M_Mo_isMaker
  go <;> ir <;> bt
theorem ax_jx_lt (p : Nat → Bool) : ∀ n, 1 ≤ n → ax_jx p n < n := by
  intro n
  induction n with
  | zero => intro z; omega
  | succ n ihn =>
    intro _
    unfold ax_jx
    split
    · omega
    · by_cases hz : 1 ≤ n
      · have := ihn hz; omega
      · have : n = 0 := by omega
        subst this
        exact Nat.succ_pos 0
theorem ax_up0 {G : ax_Gr} (hok : GradeOk G) : ∀ s, s < G.st → (G.fr 0).toInt ≤ (G.fr s).toInt ∧ (1 ≤ s → (G.fr 0).toInt < (G.fr s).toInt) := by
  intro s
  induction s with
  | zero => exact fun _ => ⟨Int.le_refl _, fun z => absurd z (by omega)⟩
  | succ s ih =>
    intro hs
    have h1 := ih (by omega)
    have h2 := hok.up s hs
    exact ⟨by omega, fun _ => by omega⟩
theorem q_dec (s : Nat) (hs : s < 1000) : (nI s + Int32.ofInt (-1)).toInt = (s : Int) - 1 := by
  rw [q_add, q_nI, q_ofI]
  omega
theorem q_le1 {s t : Nat} (h : s + 1 ≤ t) : s ≤ t := by omega
theorem mulOk (a b : Int64) (x y : Int) (h1 : a.toInt = x) (h2 : b.toInt = y) (h3 : 0 ≤ x) (h4 : x ≤ 1000000) (h5 : 0 ≤ y) (h6 : y ≤ 1000000) : a * b = Int64.ofInt (x * y) := by
  apply q_toL
  rw [q_mulL, h1, h2]
  have hm1 : x * y ≤ 1000000 * 1000000 := Int.mul_le_mul h4 h6 h5 (by omega)
  have hm2 : 0 ≤ x * y := Int.mul_nonneg h3 h5
  omega
theorem n_priceOf {p : Nat} {F : ax_Of} (hN : NumAt m p F) (hok : OfferOk F) (hp : p < 15) (k : Nat) (hk : k < F.n) (q : Int64) (hq : 1 ≤ q.toInt ∧ q.toInt ≤ 1000000) :
    ax_run m_Mo_priceOf [.ref 23, .int (nI p), .int (nI k), .long q] (ax_hp L xs c m o pool, u) (.inl (some (.long (Int64.ofInt (ax_pri (F.g k) q)))), (ax_hp L xs c m o pool, u)) := by
  have hn4 := hok.n4
  have hg := hok.gs k hk
  have hs1 := hg.s1
  have hs4 := hg.s4
  have hst := hN.st k hk
  have hu0 := ax_up0 hg
  have lp : ∀ (s : Nat) (x : Int32), s ≤ (F.g k).st → x.toInt = (s : Int) - 1 → (∀ i, s ≤ i → i < (F.g k).st → q.toInt < ((F.g k).fr i).toInt) → ax_wp ax_run M_Mo_priceOf (fun r' => r' = (.inl (some (.long (Int64.ofInt (ax_pri (F.g k) q)))), (ax_hp L xs c m o pool, u))) 26 [(0, .ref 23), (3, .long q), (5, .int (nI (64 * p + 16 * k))), (7, .int x)] [] (ax_hp L xs c m o pool, u) := by
    intro s
    induction s with
    | zero =>
      intro x hs hx hall
      have h0 := hall 0 (Nat.le_refl _) (by omega)
      have hf0 := hg.fm 0 (by omega)
      have hc0 := hg.cm 0 (by omega)
      gto 28
      refine w_if1 rfl (fun _ => ?_) (fun h5 => absurd (c_lt0.mpr (by omega)) h5)
      gg
      refine w_la (j := 64 * p + 16 * k + (8 + 2 * 0)) rfl rfl (by ix) (by omega) (by decide) ?_
      gg
      refine w_la (j := 64 * p + 16 * k + (9 + 2 * 0)) rfl rfl (by ix) (by omega) (by decide) ?_
      gg
      refine w_lret rfl rfl ?_
      congr 4
      have hpd : ax_paid (F.g k) q = ((F.g k).fr 0).toInt := if_pos h0
      have hjx : ∀ n, 1 ≤ n → n ≤ (F.g k).st → ax_jx (fun s => decide (((F.g k).fr s).toInt ≤ ((F.g k).fr 0).toInt)) n = 0 := by
        intro n
        induction n with
        | zero => intro z; omega
        | succ n ihn =>
          intro _ hnn
          by_cases hz : n = 0
          · subst hz
            show (if _ then 0 else ax_jx _ 0) = 0
            split <;> rfl
          · show (if decide (((F.g k).fr n).toInt ≤ ((F.g k).fr 0).toInt) = true then n else _) = 0
            have := (hu0 n (by omega)).2 (by omega)
            rw [if_neg (by rw [decide_eq_true_eq]; omega)]
            exact ihn (by omega) (by omega)
      unfold ax_pri
      rw [hpd, hjx _ hs1 (Nat.le_refl _)]
      exact mulOk _ _ _ _ (hN.fr k hk 0 (by omega)) (hN.ce k hk 0 (by omega)) (by omega) (by omega) (by omega) (by omega)
    | succ s ih =>
      intro x hs hx hall
      have hx' : x = nI s := q_nIof (by omega) (by omega)
      subst hx'
      have hcb := hg.cm s (by omega)
      gto 28
      refine w_if1 rfl (fun h5 => absurd (c_lt0.mp h5) (by omega)) (fun _ => ?_)
      gg
      refine w_la (j := 64 * p + 16 * k + (8 + 2 * s)) rfl rfl (by ix) (by omega) (by decide) ?_
      gg
      refine w_if1 rfl (fun h7 => ?_) (fun h7 => ?_)
      · have h8 := c_Lgt.mp h7
        rw [hN.fr k hk s (by omega)] at h8
        clear h7
        gto 26
        refine w_lv (ih (nI s + Int32.ofInt (-1)) (q_le1 hs) (q_dec s (Nat.lt_of_lt_of_le (Nat.lt_of_lt_of_le (Nat.lt_succ_self s) (Nat.le_trans hs hs4)) (by decide))) (fun i hi1 hi2 => ?_)) rfl ⟨rfl, rfl, rfl, rfl, trivial⟩
        by_cases his : i = s
        · subst his; omega
        · exact hall i (by omega) hi2
      · have h8 : ¬ q.toInt < (m.numbers (64 * p + 16 * k + (8 + 2 * s))).toInt := fun z => h7 (c_Lgt.mpr z)
        rw [hN.fr k hk s (by omega)] at h8
        clear h7
        gg
        refine w_la (j := 64 * p + 16 * k + (9 + 2 * s)) rfl rfl (by ix) (by omega) (by decide) ?_
        gg
        refine w_lret rfl rfl ?_
        congr 4
        have hpd : ax_paid (F.g k) q = q.toInt := if_neg (by have := (hu0 s (by omega)).1; omega)
        have hjx : ∀ n, s + 1 ≤ n → n ≤ (F.g k).st → ax_jx (fun s => decide (((F.g k).fr s).toInt ≤ q.toInt)) n = s := by
          intro n
          induction n with
          | zero => intro z; omega
          | succ n ihn =>
            intro h1 hnn
            show (if decide (((F.g k).fr n).toInt ≤ q.toInt) = true then n else _) = s
            by_cases hz : n = s
            · subst hz
              rw [if_pos (by rw [decide_eq_true_eq]; omega)]
            · have := hall n (by omega) (by omega)
              rw [if_neg (by rw [decide_eq_true_eq]; omega)]
              exact ihn (by omega) (by omega)
        unfold ax_pri
        rw [hpd, hjx _ hs (Nat.le_refl _)]
        exact mulOk _ _ _ _ rfl (hN.ce k hk s (by omega)) (by omega) (by omega) (by omega) (by omega)
  startR M_Mo_priceOf
  gg
  cS (n_place p k (by omega) (by omega))
  gg
  refine w_la (j := 64 * p + 16 * k + 6) rfl rfl (by ix) (by omega) (by decide) ?_
  gto 26
  refine w_lv (lp (F.g k).st ((m.numbers (64 * p + 16 * k + 6)).toInt32 - Int32.ofInt 1) (Nat.le_refl _) (by rw [q_sub, q_l2i, q_ofI, hst]; omega) (fun i h1 h2 => absurd h2 (by omega))) rfl ⟨rfl, rfl, rfl, rfl, trivial⟩
end MF
end
section
structure MkRel (m : ax_Mo) (Fs : Nat → ax_Of) : Prop where
  n : m.makers ≤ 4
  at_ : ∀ k, k < m.makers → NumAt m k (Fs k) ∧ OfferOk (Fs k)
theorem k_ne1 : ax_cnd .ne (Int32.ofInt 1) 0 := (by decide : ¬ Int32.ofInt 1 = 0)
theorem k_ne2 : ax_cnd .ne (Int32.ofInt 2) 0 := (by decide : ¬ Int32.ofInt 2 = 0)
theorem k_eq1 : ¬ ax_cnd .eq (Int32.ofInt 1) 0 := (by decide : ¬ Int32.ofInt 1 = 0)
theorem k_eq2 : ¬ ax_cnd .eq (Int32.ofInt 2) 0 := (by decide : ¬ Int32.ofInt 2 = 0)
section MG
variable {L : Nat} {xs : Nat → Int32} {c : ax_St} {m : ax_Mo} {o : Nat → Int64} {pool : List (Option ax_C)} {u : Nat} {h : ax_H}
theorem n_isClass {Fs : Nat → ax_Of} (hM : MkRel m Fs) (k j : Int32) : ax_run m_Mo_isClass [.ref 23, .int k, .int j] (ax_hp L xs c m o pool, u) (.inl (some (.int (bI (0 ≤ k.toInt ∧ k.toInt < m.makers ∧ 0 ≤ j.toInt ∧ j.toInt < (Fs k.toInt.toNat).n)))), (ax_hp L xs c m o pool, u)) := by
  have hn := hM.n
  startR M_Mo_isClass
  gg
  cV (n_isMaker k hM.n)
  by_cases hk : 0 ≤ k.toInt ∧ k.toInt < m.makers
  · obtain ⟨n, rfl, hn1, hn2⟩ := q_nat (x := k) (by omega)
    have hN := (hM.at_ n (by omega)).1
    have hO := (hM.at_ n (by omega)).2.n4
    have hnn : (nI n).toInt.toNat = n := by rw [← hn1]; rfl
    rw [hnn]
    clear hnn
    refine w_if1 rfl (fun h5 => absurd hk (c_eq0.mp h5)) (fun _ => ?_)
    gg
    refine w_if1 rfl (fun h5 => ?_) (fun h5 => ?_)
    · gg
      ir
      exact bF (fun z => absurd z.2.2.1 (by have := c_lt0.mp h5; omega))
    · gg
      refine w_ia rfl rfl rfl (by omega) (by decide) ?_
      rw [hN.cl]
      refine w_if2 rfl (fun h6 => ?_) (fun h6 => ?_)
      · gg
        ir
        refine bF (fun z => ?_)
        have h7 := Int32.le_iff_toInt_le.mp h6
        rw [q_nI' (by omega)] at h7
        omega
      · gg
        ir
        refine bT ⟨hk.1, hk.2, ?_, ?_⟩
        · exact Int.not_lt.mp (fun z => h5 (c_lt0.mpr z))
        · have h7 : ¬ (nI (Fs n).n).toInt ≤ j.toInt := fun z => h6 (Int32.le_iff_toInt_le.mpr z)
          rw [q_nI' (by omega)] at h7
          omega
  · refine w_if1 rfl (fun _ => ?_) (fun h5 => absurd (c_eq0.mpr hk) h5)
    gg
    ir
    exact bF (fun z => hk ⟨z.1, z.2.1⟩)
def mp_least (c : ax_St) (m : ax_Mo) (Fs : Nat → ax_Of) (k : Int32) : Value × ax_Mo := if ¬ (0 ≤ k.toInt ∧ k.toInt < m.makers) then (.int 0, { m with thrown := 1 }) else (.int (ax_least c (Fs k.toInt.toNat)), { m with thrown := 0 })
theorem NumAt.thr {p : Nat} {F : ax_Of} {x : Int32} (h : NumAt m p F) : NumAt { m with thrown := x } p F := ⟨h.cl, h.lm, h.st, h.dy, h.fr, h.ce⟩
theorem BRel.thr {x : Int32} (h : BRel c m) : BRel c { m with thrown := x } := ⟨h.n, h.k, h.v, h.l, h.x, h.y⟩
theorem n_least {Fs : Nat → ax_Of} (hM : MkRel m Fs) (hR : BRel c m) (hb : BoardOk c) (k : Int32) : ax_run m_Mo_least [.ref 23, .int k] (ax_hp L xs c m o pool, u) (ax_mout L xs c o pool u (mp_least c m Fs k)) := by
  have hn := hM.n
  unfold mp_least
  split
  · rename_i h0
    startR M_Mo_least
    gg
    cV (n_isMaker k hM.n)
    refine w_if1 rfl (fun _ => ?_) (fun h5 => absurd (c_eq0.mpr h0) h5)
    gg
    refine w_if1 rfl (fun _ => ?_) (fun h5 => absurd (by first | exact k_ne1 | exact k_ne2) h5)
    gg
    ir
    rfl
  · rename_i h0
    have h1 : 0 ≤ k.toInt ∧ k.toInt < m.makers := by omega
    obtain ⟨n, rfl, hn1, hn2⟩ := q_nat (x := k) (by omega)
    have hnn : (nI n).toInt.toNat = n := by rw [← hn1]; rfl
    rw [hnn]
    have hN := hM.at_ n (by omega)
    startR M_Mo_least
    gg
    cV (n_isMaker (nI n) hM.n)
    refine w_if1 rfl (fun h5 => absurd h1 (c_eq0.mp h5)) (fun _ => ?_)
    gg
    refine w_if1 rfl (fun h5 => absurd rfl h5) (fun _ => ?_)
    gg
    cV (n_leastOf (m := { m with thrown := 0 }) hN.1.thr hN.2 hR.thr hb (by omega))
    gg
    ir
    rfl
def mp_price (m : ax_Mo) (Fs : Nat → ax_Of) (k j : Int32) (q : Int64) : Value × ax_Mo := if ¬ (0 ≤ k.toInt ∧ k.toInt < m.makers ∧ 0 ≤ j.toInt ∧ j.toInt < (Fs k.toInt.toNat).n) then (.long 0, { m with thrown := 1 }) else if ¬ (1 ≤ q.toInt ∧ q.toInt ≤ 1000000) then (.long 0, { m with thrown := 2 }) else (.long (Int64.ofInt (ax_pri ((Fs k.toInt.toNat).g j.toInt.toNat) q)), { m with thrown := 0 })
theorem n_price {Fs : Nat → ax_Of} (hM : MkRel m Fs) (k j : Int32) (q : Int64) : ax_run m_Mo_price [.ref 23, .int k, .int j, .long q] (ax_hp L xs c m o pool, u) (ax_mout L xs c o pool u (mp_price m Fs k j q)) := by
  have hn := hM.n
  unfold mp_price
  split
  · rename_i h0
    startR M_Mo_price
    gg
    cV (n_isClass hM k j)
    refine w_if1 rfl (fun h5 => absurd (c_ne0.mp h5) h0) (fun _ => ?_)
    gg
    refine w_if1 rfl (fun _ => ?_) (fun h5 => absurd (by first | exact k_ne1 | exact k_ne2) h5)
    gg
    exact w_lret rfl rfl rfl
  · rename_i h0
    have h1 := Decidable.not_not.mp h0
    obtain ⟨n, rfl, hn1, hn2⟩ := q_nat (x := k) (by omega)
    obtain ⟨i, rfl, hi1, hi2⟩ := q_nat (x := j) (by omega)
    have hnn : (nI n).toInt.toNat = n := by rw [← hn1]; rfl
    have hii : (nI i).toInt.toNat = i := by rw [← hi1]; rfl
    have hN := hM.at_ n (by omega)
    have hin : i < (Fs n).n := by
      have := h1.2.2.2
      rw [hnn, ← hi1] at this
      omega
    split
    · rename_i h2
      startR M_Mo_price
      gg
      cV (n_isClass hM (nI n) (nI i))
      refine w_if1 rfl (fun _ => ?_) (fun h5 => absurd (c_ne0.mpr h1) h5)
      gg
      cS (n_isQuantity q)
      refine w_if1 rfl (fun _ => ?_) (fun h5 => absurd (c_eq0.mpr h2) h5)
      gg
      refine w_if1 rfl (fun _ => ?_) (fun h5 => absurd (by first | exact k_ne1 | exact k_ne2) h5)
      gg
      exact w_lret rfl rfl rfl
    · rename_i h2
      rw [hnn, hii]
      startR M_Mo_price
      gg
      cV (n_isClass hM (nI n) (nI i))
      refine w_if1 rfl (fun _ => ?_) (fun h5 => absurd (c_ne0.mpr h1) h5)
      gg
      cS (n_isQuantity q)
      refine w_if1 rfl (fun h5 => absurd (Decidable.not_not.mp h2) (c_eq0.mp h5)) (fun _ => ?_)
      gg
      refine w_if1 rfl (fun h5 => absurd rfl h5) (fun _ => ?_)
      gg
      cV (n_priceOf (m := { m with thrown := 0 }) hN.1.thr hN.2 (by omega) i hin q (Decidable.not_not.mp h2))
      gg
      exact w_lret rfl rfl rfl
def mp_best (c : ax_St) (m : ax_Mo) (Fs : Nat → ax_Of) (q : Int64) : Value × ax_Mo := if ¬ (1 ≤ q.toInt ∧ q.toInt ≤ 1000000) then (.int 0, { m with thrown := 1 }) else (.int (ax_bst c Fs q m.makers).1, { m with thrown := 0 })
theorem n_best {Fs : Nat → ax_Of} (hM : MkRel m Fs) (hR : BRel c m) (hb : BoardOk c) (q : Int64) : ax_run m_Mo_best [.ref 23, .long q] (ax_hp L xs c m o pool, u) (ax_mout L xs c o pool u (mp_best c m Fs q)) := by
  have hn := hM.n
  unfold mp_best
  split
  · rename_i h0
    startR M_Mo_best
    gg
    cS (n_isQuantity q)
    refine w_if1 rfl (fun _ => ?_) (fun h5 => absurd (c_eq0.mpr h0) h5)
    gg
    refine w_if1 rfl (fun h5 => absurd h5 (by first | exact k_eq1 | exact k_eq2)) (fun _ => ?_)
    gg
    ir
    rfl
  · rename_i h0
    have h9 := Decidable.not_not.mp h0
    have lp : ∀ (e k : Nat), k + e = m.makers → ax_wp ax_run M_Mo_best (fun r' => r' = ax_mout L xs c o pool u (.int (ax_bst c Fs q m.makers).1, { m with thrown := 0 })) 33 [(0, .ref 23), (1, .long q), (3, .int (ax_bst c Fs q k).1), (4, .long (ax_bst c Fs q k).2), (6, .int (nI k))] [] (ax_hp L xs c { m with thrown := 0 } o pool, u) := by
      intro e
      induction e with
      | zero =>
        intro k hk
        have : k = m.makers := by omega
        subst this
        gg
        refine w_if2 rfl (fun _ => ?_) (fun h5 => absurd ((cn_ge (a := m.makers) (b := m.makers) (by omega) (by omega)).mpr (Nat.le_refl _)) h5)
        gg
        ir
        rfl
      | succ e ih =>
        intro k hk
        have hN := hM.at_ k (by omega)
        have hn4 := hN.2.n4
        have ihk := ih (k + 1) (by omega)
        gg
        refine w_if2 rfl (fun h5 => absurd ((cn_ge (a := k) (b := m.makers) (by omega) (by omega)).mp h5) (by omega)) (fun _ => ?_)
        gg
        cV (n_leastOf (m := { m with thrown := 0 }) hN.1.thr hN.2 hR.thr hb (by omega))
        gg
        rcases ax_least_r (c := c) hn4 with hl | ⟨b, hb1, hl⟩
        · rw [hl]
          refine w_if2 rfl (fun _ => ?_) (fun h5 => absurd rfl h5)
          gto 33
          have eb : ax_bst c Fs q (k + 1) = ax_bst c Fs q k := if_pos hl
          rw [eb] at ihk
          exact w_lv ihk rfl ⟨rfl, rfl, rfl, rfl, rfl, trivial⟩
        · have hbb : (nI b).toInt.toNat = b := by rw [q_nI' (by omega)]; rfl
          have hpr := n_priceOf (L := L) (xs := xs) (c := c) (m := { m with thrown := 0 }) (o := o) (pool := pool) (u := u) hN.1.thr hN.2 (by omega) b hb1 q h9
          have hpb := ax_pri_b (hN.2.gs b hb1) (q := q) h9
          have eb : ax_bst c Fs q (k + 1) = (if (ax_bst c Fs q k).1 = -1 ∨ ax_pri ((Fs k).g b) q < (ax_bst c Fs q k).2.toInt then (nI k, Int64.ofInt (ax_pri ((Fs k).g b) q)) else ax_bst c Fs q k) := by
            show (if ax_least c (Fs k) = -1 then _ else _) = _
            rw [if_neg (by rw [hl]; exact nI_ne (by omega)), hl, hbb]
          rw [eb] at ihk
          rw [hl]
          refine w_if2 rfl (fun h5 => absurd h5 (nI_ne (by omega))) (fun _ => ?_)
          gg
          refine w_if2 rfl (fun h5 => ?_) (fun h5 => ?_)
          · rw [if_pos (show (ax_bst c Fs q k).1 = -1 ∨ ax_pri ((Fs k).g b) q < (ax_bst c Fs q k).2.toInt from Or.inl h5)] at ihk
            gg
            cV hpr
            gto 33
            exact w_lv ihk rfl ⟨rfl, rfl, rfl, rfl, rfl, trivial⟩
          · gg
            cV hpr
            gg
            refine w_if1 rfl (fun h7 => ?_) (fun h7 => ?_)
            · have h8 := c_Llt.mp h7
              rw [q_ofIL (by omega) (by omega)] at h8
              rw [if_pos (show (ax_bst c Fs q k).1 = -1 ∨ ax_pri ((Fs k).g b) q < (ax_bst c Fs q k).2.toInt from Or.inr h8)] at ihk
              gg
              cV hpr
              gto 33
              exact w_lv ihk rfl ⟨rfl, rfl, rfl, rfl, rfl, trivial⟩
            · have h8 : ¬ (Int64.ofInt (ax_pri ((Fs k).g b) q)).toInt < (ax_bst c Fs q k).2.toInt := fun z => h7 (c_Llt.mpr z)
              rw [q_ofIL (by omega) (by omega)] at h8
              rw [if_neg (show ¬ ((ax_bst c Fs q k).1 = -1 ∨ ax_pri ((Fs k).g b) q < (ax_bst c Fs q k).2.toInt) from fun z => z.elim h5 h8)] at ihk
              gto 33
              exact w_lv ihk rfl ⟨rfl, rfl, rfl, rfl, rfl, trivial⟩
    startR M_Mo_best
    gg
    cS (n_isQuantity q)
    refine w_if1 rfl (fun h5 => absurd h9 (c_eq0.mp h5)) (fun _ => ?_)
    gg
    refine w_if1 rfl (fun _ => ?_) (fun h5 => absurd rfl h5)
    gto 33
    exact w_lv (lp m.makers 0 (by omega)) rfl ⟨rfl, rfl, rfl, rfl, rfl, trivial⟩
end MG
end
section
def ax_mcol (c : ax_St) (m : ax_Mo) (G : ax_Gr) : Nat → Nat × (Nat → Int32) × (Nat → Int64)
  | 0 => (0, m.remarkOf, m.excess)
  | t + 1 => if 0 < ax_ex c G t then ((ax_mcol c m G t).1 + 1, upd (ax_mcol c m G t).2.1 (ax_mcol c m G t).1 (nI t), vp_updL (ax_mcol c m G t).2.2 (ax_mcol c m G t).1 (Int64.ofInt (ax_ex c G t))) else ax_mcol c m G t
theorem ax_mcol_le (c : ax_St) (m : ax_Mo) (G : ax_Gr) : ∀ t, (ax_mcol c m G t).1 ≤ t := by
  intro t
  induction t with
  | zero => exact Nat.le_refl _
  | succ t ih =>
    unfold ax_mcol
    split
    · exact Nat.succ_le_succ ih
    · omega
def ax_mcst (c : ax_St) (m : ax_Mo) (G : ax_Gr) (t : Nat) : ax_Mo := { m with thrown := 0, remarks := (ax_mcol c m G t).1, remarkOf := (ax_mcol c m G t).2.1, excess := (ax_mcol c m G t).2.2 }
section MH
variable {L : Nat} {xs : Nat → Int32} {c : ax_St} {m : ax_Mo} {o : Nat → Int64} {pool : List (Option ax_C)} {u : Nat} {h : ax_H}
def mp_run (c : ax_St) (m : ax_Mo) (Fs : Nat → ax_Of) (k j : Int32) : Value × ax_Mo := if ¬ (0 ≤ k.toInt ∧ k.toInt < m.makers ∧ 0 ≤ j.toInt ∧ j.toInt < (Fs k.toInt.toNat).n) then (.int 0, { m with thrown := 1 }) else (.int (nI (ax_mcol c m ((Fs k.toInt.toNat).g j.toInt.toNat) c.bn).1), ax_mcst c m ((Fs k.toInt.toNat).g j.toInt.toNat) c.bn)
theorem n_run {Fs : Nat → ax_Of} (hM : MkRel m Fs) (hR : BRel c m) (hb : BoardOk c) (k j : Int32) : ax_run m_Mo_run [.ref 23, .int k, .int j] (ax_hp L xs c m o pool, u) (ax_mout L xs c o pool u (mp_run c m Fs k j)) := by
  have hn := hM.n
  have hbn := hb.n
  have hrn := hR.n
  unfold mp_run
  split
  · rename_i h0
    startR M_Mo_run
    gg
    cV (n_isClass hM k j)
    refine w_if1 rfl (fun _ => ?_) (fun h5 => absurd (c_eq0.mpr h0) h5)
    gg
    refine w_if1 rfl (fun h5 => absurd h5 k_eq1) (fun _ => ?_)
    gg
    ir
    rfl
  · rename_i h0
    have h1 := Decidable.not_not.mp h0
    obtain ⟨n, rfl, hn1, hn2⟩ := q_nat (x := k) (by omega)
    obtain ⟨i, rfl, hi1, hi2⟩ := q_nat (x := j) (by omega)
    have hnn : (nI n).toInt.toNat = n := by rw [← hn1]; rfl
    have hii : (nI i).toInt.toNat = i := by rw [← hi1]; rfl
    have hN := hM.at_ n (by omega)
    have hin : i < (Fs n).n := by
      have := h1.2.2.2
      rw [hnn, ← hi1] at this
      omega
    rw [hnn, hii]
    have lp : ∀ (d t : Nat), t + d = c.bn → ax_wp ax_run M_Mo_run (fun r' => r' = ax_mout L xs c o pool u (.int (nI (ax_mcol c m ((Fs n).g i) c.bn).1), ax_mcst c m ((Fs n).g i) c.bn)) 34 [(0, .ref 23), (1, .int (nI n)), (2, .int (nI i)), (3, .int (nI t))] [] (ax_hp L xs c (ax_mcst c m ((Fs n).g i) t) o pool, u) := by
      intro d
      induction d with
      | zero =>
        intro t ht
        have : t = c.bn := by omega
        subst this
        gg
        refine w_if2 rfl (fun _ => ?_) (fun h5 => absurd ((cn_ge (a := c.bn) (b := m.things) (by omega) (by omega)).mpr (by omega)) h5)
        gg
        ir
        rfl
      | succ d ih =>
        intro t ht
        have hle := ax_mcol_le c m ((Fs n).g i) t
        have hx := ax_ex_b hb (hN.2.gs i hin) (t := t) (by omega)
        have hNt : NumAt (ax_mcst c m ((Fs n).g i) t) n (Fs n) := ⟨hN.1.cl, hN.1.lm, hN.1.st, hN.1.dy, hN.1.fr, hN.1.ce⟩
        have hRt : BRel c (ax_mcst c m ((Fs n).g i) t) := ⟨hR.n, hR.k, hR.v, hR.l, hR.x, hR.y⟩
        have hby := n_beyond (L := L) (xs := xs) (o := o) (pool := pool) (u := u) hNt hN.2 hRt hb (by omega) i t hin (by omega)
        have iht := ih (t + 1) (by omega)
        gg
        refine w_if2 rfl (fun h5 => absurd ((cn_ge (a := t) (b := m.things) (by omega) (by omega)).mp h5) (by omega)) (fun _ => ?_)
        gg
        cV hby
        gg
        refine w_if1 rfl (fun h7 => ?_) (fun h7 => ?_)
        · have h8 := c_Lgt.mp h7
          rw [q_ofIL (by omega) (by omega), q_ofNL] at h8
          have h9 : 0 < ax_ex c ((Fs n).g i) t := by omega
          gg
          refine w_ias rfl rfl rfl (by show (ax_mcol c m ((Fs n).g i) t).1 < 60; omega) (by decide) ?_
          gg
          have hNt2 : NumAt { ax_mcst c m ((Fs n).g i) t with remarkOf := upd (ax_mcol c m ((Fs n).g i) t).2.1 (ax_mcol c m ((Fs n).g i) t).1 (nI t) } n (Fs n) := ⟨hN.1.cl, hN.1.lm, hN.1.st, hN.1.dy, hN.1.fr, hN.1.ce⟩
          have hRt2 : BRel c { ax_mcst c m ((Fs n).g i) t with remarkOf := upd (ax_mcol c m ((Fs n).g i) t).2.1 (ax_mcol c m ((Fs n).g i) t).1 (nI t) } := ⟨hR.n, hR.k, hR.v, hR.l, hR.x, hR.y⟩
          cV (n_beyond hNt2 hN.2 hRt2 hb (by omega) i t hin (by omega))
          refine w_las rfl rfl rfl (by show (ax_mcol c m ((Fs n).g i) t).1 < 60; omega) (by decide) ?_
          gto 34
          have e : ax_mcst c m ((Fs n).g i) (t + 1) = { m with thrown := 0, remarks := (ax_mcol c m ((Fs n).g i) t).1 + 1, remarkOf := upd (ax_mcol c m ((Fs n).g i) t).2.1 (ax_mcol c m ((Fs n).g i) t).1 (nI t), excess := vp_updL (ax_mcol c m ((Fs n).g i) t).2.2 (ax_mcol c m ((Fs n).g i) t).1 (Int64.ofInt (ax_ex c ((Fs n).g i) t)) } := by
            unfold ax_mcst
            rw [show ax_mcol c m ((Fs n).g i) (t + 1) = _ from if_pos h9]
          rw [e] at iht
          exact w_lv iht rfl ⟨rfl, rfl, rfl, rfl, trivial⟩
        · have h8 : ¬ (Int64.ofNat 0).toInt < (Int64.ofInt (ax_ex c ((Fs n).g i) t)).toInt := fun z => h7 (c_Lgt.mpr z)
          rw [q_ofIL (by omega) (by omega), q_ofNL] at h8
          have h9 : ¬ 0 < ax_ex c ((Fs n).g i) t := by omega
          gto 34
          have e : ax_mcst c m ((Fs n).g i) (t + 1) = ax_mcst c m ((Fs n).g i) t := by
            unfold ax_mcst
            rw [show ax_mcol c m ((Fs n).g i) (t + 1) = ax_mcol c m ((Fs n).g i) t from if_neg h9]
          rw [e] at iht
          exact w_lv iht rfl ⟨rfl, rfl, rfl, rfl, trivial⟩
    startR M_Mo_run
    gg
    cV (n_isClass hM (nI n) (nI i))
    refine w_if1 rfl (fun h5 => absurd h1 (c_eq0.mp h5)) (fun _ => ?_)
    gg
    refine w_if1 rfl (fun _ => ?_) (fun h5 => absurd rfl h5)
    gto 34
    exact w_lv (lp c.bn 0 (by omega)) rfl ⟨rfl, rfl, rfl, rfl, trivial⟩
/-- copying the classes of one row to another -/
def ax_cpy (f : Nat → Int64) (a b n : Nat) : Nat → Int64 := fun j => if 64 * b ≤ j ∧ j < 64 * b + n then f (64 * a + (j - 64 * b)) else f j
theorem n_copy (a b : Nat) (ha : a < 15) (hb : b < 15) (hab : a ≠ b) : ax_run m_Mo_copyClasses [.ref 23, .int (nI a), .int (nI b)] (ax_hp L xs c m o pool, u) (.inl none, (ax_hp L xs c { m with classes := upd m.classes b (m.classes a), numbers := ax_cpy m.numbers a b 64 } o pool, u)) := by
  have lp : ∀ (d k : Nat), k + d = 64 → ax_wp ax_run M_Mo_copyClasses (fun r' => r' = (.inl none, (ax_hp L xs c { m with classes := upd m.classes b (m.classes a), numbers := ax_cpy m.numbers a b 64 } o pool, u))) 14 [(0, .ref 23), (1, .int (nI a)), (2, .int (nI b)), (3, .int (nI k))] [] (ax_hp L xs c { m with classes := upd m.classes b (m.classes a), numbers := ax_cpy m.numbers a b k } o pool, u) := by
    intro d
    induction d with
    | zero =>
      intro k hk
      have : k = 64 := by omega
      subst this
      gg
      refine w_if2 rfl (fun _ => ?_) (fun h5 => absurd ((cn_ge (a := 64) (b := 64) (by omega) (by omega)).mpr (by omega)) h5)
      exact w_vret rfl rfl rfl
    | succ d ih =>
      intro k hk
      have ihk := ih (k + 1) (by omega)
      gg
      refine w_if2 rfl (fun h5 => absurd ((cn_ge (a := k) (b := 64) (by omega) (by omega)).mp h5) (by omega)) (fun _ => ?_)
      gg
      cS (n_place b 0 (by omega) (by omega))
      gg
      cS (n_place a 0 (by omega) (by omega))
      gg
      refine w_la (j := 64 * a + 16 * 0 + k) rfl rfl (by ix) (by omega) (by decide) ?_
      refine w_las (j := 64 * b + 16 * 0 + k) rfl rfl (by ix) (by omega) (by decide) ?_
      gto 14
      have e : vp_updL (ax_cpy m.numbers a b k) (64 * b + 16 * 0 + k) (ax_cpy m.numbers a b k (64 * a + 16 * 0 + k)) = ax_cpy m.numbers a b (k + 1) := by
        funext j
        unfold vp_updL
        by_cases hj : j = 64 * b + 16 * 0 + k
        · rw [if_pos hj]
          subst hj
          unfold ax_cpy
          rw [if_neg (by omega), if_pos (by omega)]
          congr 1
          omega
        · rw [if_neg hj]
          unfold ax_cpy
          by_cases h2 : 64 * b ≤ j ∧ j < 64 * b + k
          · rw [if_pos h2, if_pos (by omega)]
          · rw [if_neg h2, if_neg (by omega)]
      rw [← e] at ihk
      exact w_lv ihk rfl ⟨rfl, rfl, rfl, rfl, trivial⟩
  startR M_Mo_copyClasses
  gg
  refine w_ia rfl rfl rfl (by omega) (by decide) ?_
  refine w_ias rfl rfl rfl (by omega) (by decide) ?_
  gto 14
  have h0 := lp 64 0 (by omega)
  have e : ax_cpy m.numbers a b 0 = m.numbers := by
    funext j
    unfold ax_cpy
    rw [if_neg (by omega)]
  rw [e] at h0
  exact w_lv h0 rfl ⟨rfl, rfl, rfl, rfl, trivial⟩
def mp_quote (m : ax_Mo) (k : Int32) (d : Int64) : Value × ax_Mo := if ¬ (0 ≤ k.toInt ∧ k.toInt < m.makers) then (.int 0, { m with thrown := 1 }) else if m.quotes = 10 then (.int (-1), { m with thrown := 0 })
  else (.int (nI m.quotes), { m with thrown := 0, classes := upd m.classes (4 + m.quotes) (m.classes k.toInt.toNat), numbers := ax_cpy m.numbers k.toInt.toNat (4 + m.quotes) 64, quoteMaker := upd m.quoteMaker m.quotes k, until_ := vp_updL m.until_ m.quotes d, quotes := m.quotes + 1 })
theorem n_quote (hn : m.makers ≤ 4) (hq : m.quotes ≤ 10) (k : Int32) (d : Int64) : ax_run m_Mo_quote [.ref 23, .int k, .long d] (ax_hp L xs c m o pool, u) (ax_mout L xs c o pool u (mp_quote m k d)) := by
  unfold mp_quote
  split
  · rename_i h0
    startR M_Mo_quote
    gg
    cV (n_isMaker k hn)
    refine w_if1 rfl (fun _ => ?_) (fun h5 => absurd (c_eq0.mpr h0) h5)
    gg
    refine w_if1 rfl (fun h5 => absurd h5 k_eq1) (fun _ => ?_)
    gg
    ir
    rfl
  · rename_i h0
    have h1 := Decidable.not_not.mp h0
    obtain ⟨n, rfl, hn1, hn2⟩ := q_nat (x := k) (by omega)
    have hnn : (nI n).toInt.toNat = n := by rw [← hn1]; rfl
    rw [hnn]
    have hnm : n < m.makers := by omega
    clear hnn hn1
    split
    · rename_i h2
      startR M_Mo_quote
      gg
      cV (n_isMaker (nI n) hn)
      refine w_if1 rfl (fun h5 => absurd h1 (c_eq0.mp h5)) (fun _ => ?_)
      gg
      refine w_if1 rfl (fun _ => ?_) (fun h5 => absurd rfl h5)
      gg
      refine w_if2 rfl (fun h5 => absurd h2 ((cn_ne (a := m.quotes) (b := 10) (by omega) (by omega)).mp h5)) (fun _ => ?_)
      gg
      ir
      rfl
    · rename_i h2
      startR M_Mo_quote
      gg
      cV (n_isMaker (nI n) hn)
      refine w_if1 rfl (fun h5 => absurd h1 (c_eq0.mp h5)) (fun _ => ?_)
      gg
      refine w_if1 rfl (fun _ => ?_) (fun h5 => absurd rfl h5)
      gg
      refine w_if2 rfl (fun _ => ?_) (fun h5 => absurd ((cn_ne (a := m.quotes) (b := 10) (by omega) (by omega)).mpr h2) h5)
      gto 45
      refine w_eqI (y := nI (4 + m.quotes)) (by ix) ?_
      cV (n_copy (m := { m with thrown := 0 }) n (4 + m.quotes) (by omega) (by omega) (by omega))
      gg
      refine w_ias rfl rfl rfl (by show m.quotes < 10; omega) (by decide) ?_
      gg
      refine w_las rfl rfl rfl (by show m.quotes < 10; omega) (by decide) ?_
      gg
      ir
      rfl
end MH
end
section
structure MqRel (c : ax_St) (m : ax_Mo) (Qs : Nat → ax_Of) : Prop where
  n : m.quotes = c.qn
  n10 : c.qn ≤ 10
  mkr : ∀ q, q < c.qn → m.quoteMaker q = c.qm q
  un : ∀ q, q < c.qn → m.until_ q = c.qu q
  at_ : ∀ q, q < c.qn → NumAt m (4 + q) (Qs q) ∧ OfferOk (Qs q)
def ax_mrow (f : Nat → Int64) (r : Nat) (k cl : Int32) (q dy p : Int64) (l : Int64) : Nat → Int64 :=
  vp_updL (vp_updL (vp_updL (vp_updL (vp_updL (vp_updL (vp_updL f r k.toInt64) (r + 1) cl.toInt64) (r + 2) q) (r + 3) dy) (r + 4) (p / 1000)) (r + 5) (p - p / 1000 * 1000)) (r + 6) l
theorem q_pred (n : Nat) (h : n ≤ 10) : (nI n - Int32.ofInt 1).toInt = (n : Int) - 1 := by
  rw [q_sub, q_nI, q_ofI]
  omega
section MI
variable {L : Nat} {xs : Nat → Int32} {c : ax_St} {m : ax_Mo} {o : Nat → Int64} {pool : List (Option ax_C)} {u : Nat} {h : ax_H}
/-- the row of the offer that counts -/
def ax_prow (n : Nat) (l : Int32) : Nat := if l.toInt < 0 then n else 4 + l.toInt.toNat
def mp_order2 (c : ax_St) (m : ax_Mo) (k : Int32) (q : Int64) (l : Int32) (F : ax_Of) (p : Nat) : Value × ax_Mo :=
  if m.orders = 20 ∨ ax_least c F = -1 then (.int (-1), { m with thrown := 0 })
  else (.int (nI m.orders), { m with thrown := 0, orderRow := ax_mrow m.orderRow (7 * m.orders) k (ax_least c F) q (m.numbers (64 * p + 16 * (ax_least c F).toInt.toNat + 7)) (Int64.ofInt (ax_pri (F.g (ax_least c F).toInt.toNat) q)) (if l.toInt < 0 then -1 else l.toInt64), orders := m.orders + 1 })
def mp_order (c : ax_St) (m : ax_Mo) (Fs Qs : Nat → ax_Of) (k : Int32) (q d : Int64) : Value × ax_Mo :=
  if ¬ (0 ≤ k.toInt ∧ k.toInt < m.makers) then (.int 0, { m with thrown := 1 }) else if ¬ (1 ≤ q.toInt ∧ q.toInt ≤ 1000000) then (.int 0, { m with thrown := 2 })
  else mp_order2 c m k q (ax_latest c k d) (ax_ofr c Fs Qs k.toInt.toNat (ax_latest c k d)) (ax_prow k.toInt.toNat (ax_latest c k d))
theorem n_order2 {F : ax_Of} {p : Nat} (hN : NumAt m p F) (hok : OfferOk F) (hR : BRel c m) (hb : BoardOk c) (ho : m.orders ≤ 20) (hp : p < 15) (k : Nat) (q : Int64) (hq : 1 ≤ q.toInt ∧ q.toInt ≤ 1000000) (l : Int32) :
    ax_wp ax_run M_Mo_order (fun r' => r' = ax_mout L xs c o pool u (mp_order2 c m (nI k) q l F p)) 95 [(0, .ref 23), (1, .int (nI k)), (2, .long q), (6, .int l), (7, .int (nI p))] [] (ax_hp L xs c { m with thrown := 0 } o pool, u) := by
  have hn4 := hok.n4
  gg
  cV (n_leastOf (m := { m with thrown := 0 }) hN.thr hok hR.thr hb hp)
  gg
  unfold mp_order2
  refine w_if2 rfl (fun h5 => ?_) (fun h5 => ?_)
  · have h6 : m.orders = 20 := (cn_eq (a := m.orders) (b := 20) (by omega) (by omega)).mp h5
    rw [if_pos (Or.inl h6)]
    gg
    ir
    rfl
  · have h6 : ¬ m.orders = 20 := fun z => h5 ((cn_eq (a := m.orders) (b := 20) (by omega) (by omega)).mpr z)
    gg
    refine w_if2 rfl (fun h7 => ?_) (fun h7 => ?_)
    · have h8 : ¬ ax_least c F = -1 := h7
      rw [if_neg (fun z => z.elim h6 h8)]
      rcases ax_least_r (c := c) hn4 with hl | ⟨b, hb1, hl⟩
      · exact absurd hl h8
      · have hbb : (nI b).toInt.toNat = b := by rw [q_nI' (by omega)]; rfl
        rw [hl, hbb]
        clear hbb
        gto 127
        refine w_eqI (y := nI (7 * m.orders)) (by ix) ?_
        gg
        cV (n_priceOf (m := { m with thrown := 0 }) hN.thr hok hp b hb1 q hq)
        gg
        refine w_las rfl rfl rfl (by omega) (by decide) ?_
        gg
        refine w_las (j := 7 * m.orders + 1) rfl rfl rfl (by omega) (by decide) ?_
        gg
        refine w_las (j := 7 * m.orders + 2) rfl rfl (by ix) (by omega) (by decide) ?_
        gg
        cS (n_place p b (by omega) (by omega))
        gg
        refine w_la (j := 64 * p + 16 * b + 7) rfl rfl (by ix) (by omega) (by decide) ?_
        refine w_las (j := 7 * m.orders + 3) rfl rfl (by ix) (by omega) (by decide) ?_
        gg
        refine w_ldiv rfl (by decide) ?_
        refine w_las (j := 7 * m.orders + 4) rfl rfl (by ix) (by omega) (by decide) ?_
        gg
        refine w_lrem rfl (by decide) ?_
        refine w_las (j := 7 * m.orders + 5) rfl rfl (by ix) (by omega) (by decide) ?_
        gg
        refine w_if1 rfl (fun h9 => ?_) (fun h9 => ?_)
        · have h10 := c_ge0.mp h9
          rw [if_neg (by omega)]
          gg
          refine w_las (j := 7 * m.orders + 6) rfl rfl (by ix) (by omega) (by decide) ?_
          gg
          ir
          rfl
        · have h10 : ¬ 0 ≤ l.toInt := fun z => h9 (c_ge0.mpr z)
          rw [if_pos (by omega)]
          gg
          refine w_las (j := 7 * m.orders + 6) rfl rfl (by ix) (by omega) (by decide) ?_
          gg
          ir
          rfl
    · have h8 : ax_least c F = -1 := Decidable.not_not.mp h7
      rw [if_pos (Or.inr h8)]
      gg
      ir
      rfl
theorem n_order {Fs Qs : Nat → ax_Of} (hM : MkRel m Fs) (hQ : MqRel c m Qs) (hR : BRel c m) (hb : BoardOk c) (ho : m.orders ≤ 20) (k : Int32) (q d : Int64) : ax_run m_Mo_order [.ref 23, .int k, .long q, .long d] (ax_hp L xs c m o pool, u) (ax_mout L xs c o pool u (mp_order c m Fs Qs k q d)) := by
  have hn := hM.n
  have hqn := hQ.n
  have hq10 := hQ.n10
  unfold mp_order
  split
  · rename_i h0
    startR M_Mo_order
    gg
    cV (n_isMaker k hn)
    refine w_if1 rfl (fun h5 => absurd (c_ne0.mp h5) h0) (fun _ => ?_)
    gg
    refine w_if1 rfl (fun h5 => absurd h5 k_eq1) (fun _ => ?_)
    gg
    ir
    rfl
  · rename_i h0
    have h1 := Decidable.not_not.mp h0
    obtain ⟨n, rfl, hn1, hn2⟩ := q_nat (x := k) (by omega)
    have hnn : (nI n).toInt.toNat = n := by rw [← hn1]; rfl
    rw [hnn]
    have hnm : n < m.makers := by omega
    clear hnn hn1
    split
    · rename_i h2
      startR M_Mo_order
      gg
      cV (n_isMaker (nI n) hn)
      refine w_if1 rfl (fun _ => ?_) (fun h5 => absurd (c_ne0.mpr h1) h5)
      gg
      cS (n_isQuantity q)
      refine w_if1 rfl (fun _ => ?_) (fun h5 => absurd (c_eq0.mpr h2) h5)
      gg
      refine w_if1 rfl (fun h5 => absurd h5 k_eq2) (fun _ => ?_)
      gg
      ir
      rfl
    · rename_i h2
      have h3 := Decidable.not_not.mp h2
      have lp : ∀ (s : Nat) (x : Int32), s ≤ c.qn → x.toInt = (s : Int) - 1 → (ax_latest c (nI n) d = ax_lat (fun q => decide (c.qm q = nI n ∧ d.toInt ≤ (c.qu q).toInt)) s) → ax_wp ax_run M_Mo_order (fun r' => r' = ax_mout L xs c o pool u (mp_order2 c m (nI n) q (ax_latest c (nI n) d) (ax_ofr c Fs Qs n (ax_latest c (nI n) d)) (ax_prow n (ax_latest c (nI n) d)))) 45 [(0, .ref 23), (1, .int (nI n)), (2, .long q), (4, .long d), (6, .int x)] [] (ax_hp L xs c { m with thrown := 0 } o pool, u) := by
        intro s
        induction s with
        | zero =>
          intro x hs hx hlat
          have hx1 : x = -1 := by
            rw [q_eq, hx]
            decide
          subst hx1
          have hl' : ax_latest c (nI n) d = -1 := hlat
          rw [hl']
          gg
          refine w_if1 rfl (fun _ => ?_) (fun h5 => absurd (c_lt0.mpr (by decide)) h5)
          gg
          refine w_if1 rfl (fun h5 => absurd (c_ge0.mp h5) (by decide)) (fun _ => ?_)
          gto 95
          have hN := hM.at_ n hnm
          exact w_lv (n_order2 (F := Fs n) (p := n) hN.1 hN.2 hR hb ho (by omega) n q h3 (-1)) rfl ⟨rfl, rfl, rfl, rfl, rfl, trivial⟩
        | succ s ih =>
          intro x hs hx hlat
          have hx' : x = nI s := q_nIof (by omega) (by omega)
          subst hx'
          gto 47
          refine w_if1 rfl (fun h5 => absurd (c_lt0.mp h5) (by omega)) (fun _ => ?_)
          gg
          refine w_ia rfl rfl rfl (by omega) (by decide) ?_
          rw [hQ.mkr s hs]
          gg
          refine w_if2 rfl (fun h5 => ?_) (fun h5 => ?_)
          · have h6 : ¬ c.qm s = nI n := h5
            gto 45
            refine w_lv (ih (nI s + Int32.ofInt (-1)) (q_le1 hs) (q_dec s (by omega)) ?_) rfl ⟨rfl, rfl, rfl, rfl, rfl, trivial⟩
            rw [hlat]
            exact if_neg (by rw [decide_eq_true_eq]; exact fun z => h6 z.1)
          · have h6 : c.qm s = nI n := Decidable.not_not.mp h5
            gg
            refine w_la rfl rfl rfl (by omega) (by decide) ?_
            rw [hQ.un s hs]
            gg
            refine w_if1 rfl (fun h7 => ?_) (fun h7 => ?_)
            · have h8 := c_Lge.mp h7
              have hl' : ax_latest c (nI n) d = nI s := by
                rw [hlat]
                exact if_pos (by rw [decide_eq_true_eq]; exact ⟨h6, h8⟩)
              have hss : (nI s).toInt.toNat = s := by rw [q_nI' (by omega)]; rfl
              have hnl : ¬ (nI s).toInt < 0 := by rw [q_nI' (by omega)]; omega
              rw [hl']
              gg
              refine w_if1 rfl (fun _ => ?_) (fun h9 => absurd (c_ge0.mpr (Int.not_lt.mp hnl)) h9)
              have hN := hQ.at_ s hs
              have e1 : ax_ofr c Fs Qs n (nI s) = Qs s := by
                unfold ax_ofr
                rw [if_neg hnl, hss]
              have e2 : ax_prow n (nI s) = 4 + s := by
                unfold ax_prow
                rw [if_neg hnl, hss]
              rw [e1, e2]
              gto 93
              refine w_eqI (y := nI (4 + s)) (by ix) ?_
              gto 95
              exact w_lv (n_order2 (F := Qs s) (p := 4 + s) hN.1 hN.2 hR hb ho (by omega) n q h3 (nI s)) rfl ⟨rfl, rfl, rfl, rfl, rfl, trivial⟩
            · have h8 : ¬ d.toInt ≤ (c.qu s).toInt := fun z => h7 (c_Lge.mpr z)
              gto 45
              refine w_lv (ih (nI s + Int32.ofInt (-1)) (q_le1 hs) (q_dec s (by omega)) ?_) rfl ⟨rfl, rfl, rfl, rfl, rfl, trivial⟩
              rw [hlat]
              exact if_neg (by rw [decide_eq_true_eq]; exact fun z => h8 z.2)
      startR M_Mo_order
      gg
      cV (n_isMaker (nI n) hn)
      refine w_if1 rfl (fun _ => ?_) (fun h5 => absurd (c_ne0.mpr h1) h5)
      gg
      cS (n_isQuantity q)
      refine w_if1 rfl (fun h5 => absurd h3 (c_eq0.mp h5)) (fun _ => ?_)
      gg
      refine w_if1 rfl (fun _ => ?_) (fun h5 => absurd rfl h5)
      gto 45
      refine w_lv (lp c.qn (nI m.quotes - Int32.ofInt 1) (Nat.le_refl _) ?_ rfl) rfl ⟨rfl, rfl, rfl, rfl, rfl, trivial⟩
      rw [hqn]
      exact q_pred _ hq10
end MI
end
section
/-! reading: the characters at a place, digits, whole numbers -/
def nx (n : Nat) (f : Nat → Int32) (p : Nat) : Int32 := if p < n then f p else -1
def dg (n : Nat) (f : Nat → Int32) (p : Nat) : Prop := 48 ≤ (nx n f p).toInt ∧ (nx n f p).toInt ≤ 57
instance (n : Nat) (f : Nat → Int32) (p : Nat) : Decidable (dg n f p) := inferInstanceAs (Decidable (_ ∧ _))
def dc (n : Nat) (f : Nat → Int32) : Nat → Nat → Nat
  | 0, _ => 0
  | k + 1, p => if dg n f p then dc n f k (p + 1) + 1 else 0
def dv (n : Nat) (f : Nat → Int32) : Nat → Nat → Nat → Nat
  | 0, _, v => v
  | k + 1, p, v => if dg n f p then dv n f k (p + 1) (10 * v + ((nx n f p).toInt.toNat - 48)) else v
/-- how many digits, and their value -/
def wd (n : Nat) (f : Nat → Int32) (p : Nat) : Nat := dc n f 7 p
def wv (n : Nat) (f : Nat → Int32) (p : Nat) : Nat := dv n f 7 p 0
theorem dg_lt {n : Nat} {f : Nat → Int32} {p : Nat} (h : dg n f p) : p < n := by
  by_cases hp : p < n
  · exact hp
  · have h1 := h.1
    unfold nx at h1
    rw [if_neg hp] at h1
    exact absurd h1 (by decide)
theorem dc_le (n : Nat) (f : Nat → Int32) : ∀ k p, dc n f k p ≤ k := by
  intro k
  induction k with
  | zero => exact fun p => Nat.le_refl _
  | succ k ih =>
    intro p
    unfold dc
    split
    · have := ih (p + 1); omega
    · omega
theorem dc_n (n : Nat) (f : Nat → Int32) : ∀ k p, p ≤ n → p + dc n f k p ≤ n := by
  intro k
  induction k with
  | zero => exact fun p h => h
  | succ k ih =>
    intro p hp
    unfold dc
    split
    · rename_i h
      have := dg_lt h
      have := ih (p + 1) (by omega)
      omega
    · omega
theorem dc_stop (n : Nat) (f : Nat → Int32) : ∀ k p, dc n f k p < k → ¬ dg n f (p + dc n f k p) := by
  intro k
  induction k with
  | zero => intro p h; omega
  | succ k ih =>
    intro p h
    unfold dc at h ⊢
    split
    · rename_i hd
      rw [if_pos hd] at h
      have := ih (p + 1) (by omega)
      rw [show p + (dc n f k (p + 1) + 1) = p + 1 + dc n f k (p + 1) by omega]
      exact this
    · rename_i hd
      exact hd
theorem dv_lt (n : Nat) (f : Nat → Int32) : ∀ k p v, dv n f k p v < (v + 1) * 10 ^ k := by
  intro k
  induction k with
  | zero => intro p v; unfold dv; omega
  | succ k ih =>
    intro p v
    unfold dv
    have hp : 0 < 10 ^ k := Nat.pow_pos (by decide)
    rw [Nat.pow_succ]
    split
    · rename_i hd
      have h1 := ih (p + 1) (10 * v + ((nx n f p).toInt.toNat - 48))
      have h2 : 10 * v + ((nx n f p).toInt.toNat - 48) + 1 ≤ (v + 1) * 10 := by have := hd.2; omega
      have h3 := Nat.mul_le_mul_right (10 ^ k) h2
      rw [show (v + 1) * (10 ^ k * 10) = (v + 1) * 10 * 10 ^ k by rw [Nat.mul_comm (10 ^ k) 10, Nat.mul_assoc]]
      omega
    · have h2 : (v + 1) * 1 ≤ (v + 1) * (10 ^ k * 10) := Nat.mul_le_mul_left _ (by omega)
      omega
theorem wv_lt (n : Nat) (f : Nat → Int32) (p : Nat) : wv n f p < 10000000 := by
  have := dv_lt n f 7 p 0
  unfold wv
  omega
theorem wd_n {n : Nat} {f : Nat → Int32} {p : Nat} (h : p ≤ n) : p + wd n f p ≤ n := dc_n n f 7 p h
theorem wd_0 {n : Nat} {f : Nat → Int32} {p : Nat} : wd n f p = 0 ↔ ¬ dg n f p := by
  show dc n f 7 p = 0 ↔ _
  unfold dc
  split
  · rename_i h
    exact ⟨fun z => by omega, fun z => absurd h z⟩
  · rename_i h
    exact ⟨fun _ => h, fun _ => rfl⟩
/-- the number ends well -/
def wok (n : Nat) (f : Nat → Int32) (p : Nat) : Prop := wd n f p ≠ 0 ∧ ¬ dg n f (p + wd n f p)
instance (n : Nat) (f : Nat → Int32) (p : Nat) : Decidable (wok n f p) := inferInstanceAs (Decidable (_ ∧ _))
section TX
variable {L : Nat} {xs : Nat → Int32} {c : ax_St} {m : ax_Mo} {o : Nat → Int64} {pool : List (Option ax_C)} {u : Nat} {h : ax_H}
theorem r_next (hn : c.tl ≤ 400) (hp : c.pl ≤ 1000) : ax_run m_Tx_next [.ref 2] (ax_hp L xs c m o pool, u) (.inl (some (.int (nx c.tl c.ch c.pl))), (ax_hp L xs c m o pool, u)) := by
  unfold nx
  split
  · rename_i h1
    startR M_Tx_next
    gg
    refine w_if1 rfl (fun h5 => absurd (c_lt0.mp h5) (by rw [q_nI' (by omega)]; omega)) (fun _ => ?_)
    gg
    refine w_if2 rfl (fun _ => ?_) (fun h5 => absurd ((cn_lt (a := c.pl) (b := c.tl) (by omega) (by omega)).mpr h1) h5)
    gg
    refine w_ca rfl rfl rfl (by omega) (by decide) ?_
    ir
    rfl
  · rename_i h1
    startR M_Tx_next
    gg
    refine w_if1 rfl (fun h5 => absurd (c_lt0.mp h5) (by rw [q_nI' (by omega)]; omega)) (fun _ => ?_)
    gg
    refine w_if2 rfl (fun h5 => absurd ((cn_lt (a := c.pl) (b := c.tl) (by omega) (by omega)).mp h5) h1) (fun _ => ?_)
    gg
    ir
    rfl
theorem r_isDigit (x : Int32) : ax_run m_Tx_isDigit [.int x] h (.inl (some (.int (bI (48 ≤ x.toInt ∧ x.toInt ≤ 57)))), h) := by
  startR M_Tx_isDigit
  go <;> ir <;> bt
theorem r_passes1 (hn : c.tl ≤ 400) (hp : c.pl ≤ 1000) (x : Int32) (hx : nx c.tl c.ch c.pl = x) : ax_run m_Tx_passes [.ref 2, .int x] (ax_hp L xs c m o pool, u) (.inl (some (.int 1)), (ax_hp L xs { c with pl := c.pl + 1 } m o pool, u)) := by
  startR M_Tx_passes
  gg
  cV (r_next hn hp)
  gg
  refine w_if2 rfl (fun _ => ?_) (fun h5 => absurd hx h5)
  gg
  ir
  rfl
theorem r_passes0 (hn : c.tl ≤ 400) (hp : c.pl ≤ 1000) (x : Int32) (hx : ¬ nx c.tl c.ch c.pl = x) : ax_run m_Tx_passes [.ref 2, .int x] (ax_hp L xs c m o pool, u) (.inl (some (.int 0)), (ax_hp L xs c m o pool, u)) := by
  startR M_Tx_passes
  gg
  cV (r_next hn hp)
  gg
  refine w_if2 rfl (fun h5 => absurd h5 hx) (fun _ => ?_)
  gg
  ir
  rfl
theorem q_dig (v e : Nat) (x : Int32) (hv : v < 100000000) (hx : x.toInt = (e : Int)) (h1 : 48 ≤ e) (h2 : e ≤ 57) : nI v * (Int8.ofInt 10).toInt32 + (x - (Int8.ofInt 48).toInt32) = nI (10 * v + (e - 48)) := by
  have h3 : x = nI e := q_nIof hx (by omega)
  subst h3
  have h4 : nI e - (Int8.ofInt 48).toInt32 = nI (e - 48) := by
    rw [q_eq, q_sub, q_nI, q_nI, q_b8]
    omega
  rw [h4, show (Int8.ofInt 10).toInt32 = nI 10 from by decide, nI_mulR, nI_addR, Nat.mul_comm v 10]
theorem r_whole0 (hn : c.tl ≤ 400) (hp : c.pl ≤ 1000) (hd : wd c.tl c.ch c.pl = 0) : ax_run m_Tx_readWhole [.ref 2] (ax_hp L xs c m o pool, u) (.inl (some (.int (-1))), (ax_hp L xs c m o pool, u)) := by
  have h1 := wd_0.mp hd
  startR M_Tx_readWhole
  gg
  cV (r_next hn hp)
  cS (r_isDigit _)
  refine w_if1 rfl (fun h5 => absurd (c_ne0.mp h5) h1) (fun _ => ?_)
  gg
  ir
  rfl
theorem r_whole1 (hn : c.tl ≤ 400) (hp : c.pl ≤ c.tl) (hd : wd c.tl c.ch c.pl ≠ 0) : ax_run m_Tx_readWhole [.ref 2] (ax_hp L xs c m o pool, u) (.inl (some (.int (nI (wv c.tl c.ch c.pl)))), (ax_hp L xs { c with pl := c.pl + wd c.tl c.ch c.pl } m o pool, u)) := by
  have h1 : dg c.tl c.ch c.pl := Decidable.not_not.mp (fun z => hd (wd_0.mpr z))
  have lp : ∀ (k j p v : Nat), j + k = 7 → p ≤ c.tl → v < 10 ^ j → ax_wp ax_run M_Tx_readWhole (fun r' => r' = (.inl (some (.int (nI (dv c.tl c.ch k p v)))), (ax_hp L xs { c with pl := p + dc c.tl c.ch k p } m o pool, u))) 16 [(0, .ref 2), (1, .int (nI v)), (2, .int (nI j))] [] (ax_hp L xs { c with pl := p } m o pool, u) := by
    intro k
    induction k with
    | zero =>
      intro j p v hj hpl hv
      have : j = 7 := by omega
      subst this
      gg
      refine w_if2 rfl (fun _ => ?_) (fun h5 => absurd ((cn_ge (a := 7) (b := 7) (by omega) (by omega)).mpr (Nat.le_refl _)) h5)
      gg
      ir
      rfl
    | succ k ih =>
      intro j p v hj hpl hv
      have hv2 : v < 100000000 := Nat.lt_of_lt_of_le hv (Nat.le_trans (Nat.pow_le_pow_right (by decide) (show j ≤ 7 by omega)) (by decide))
      gg
      refine w_if2 rfl (fun h5 => absurd ((cn_ge (a := j) (b := 7) (by omega) (by omega)).mp h5) (by omega)) (fun _ => ?_)
      gg
      cV (r_next (c := { c with pl := p }) hn (by show p ≤ 1000; omega))
      cS (r_isDigit _)
      refine w_if1 rfl (fun h5 => ?_) (fun h5 => ?_)
      · have h6 : ¬ dg c.tl c.ch p := c_eq0.mp h5
        gg
        ir
        unfold dv dc
        rw [if_neg h6, if_neg h6]
        rfl
      · have h6 : dg c.tl c.ch p := Decidable.not_not.mp (fun z => h5 (c_eq0.mpr z))
        obtain ⟨e, he, he2, -⟩ := q_nat (x := nx c.tl c.ch p) (by have := h6.1; omega)
        have h7 := h6.1
        have h8 := h6.2
        have hlt := dg_lt h6
        gg
        cV (r_next (c := { c with pl := p }) hn (by show p ≤ 1000; omega))
        gto 44
        refine w_eqI (y := nI (10 * v + ((nx c.tl c.ch p).toInt.toNat - 48))) ?_ ?_
        · have h9 := q_dig v e (nx c.tl c.ch p) hv2 (by omega) (by omega) (by omega)
          rw [show (nx c.tl c.ch p).toInt.toNat = e by omega]
          exact h9
        gto 16
        unfold dv dc
        rw [if_pos h6, if_pos h6]
        have hpow : 10 * v + ((nx c.tl c.ch p).toInt.toNat - 48) < 10 ^ (j + 1) := by
          rw [Nat.pow_succ]
          omega
        have := ih (j + 1) (p + 1) (10 * v + ((nx c.tl c.ch p).toInt.toNat - 48)) (by omega) (by omega) hpow
        rw [show p + (dc c.tl c.ch k (p + 1) + 1) = p + 1 + dc c.tl c.ch k (p + 1) by omega]
        exact w_lv this rfl ⟨rfl, rfl, rfl, trivial⟩
  startR M_Tx_readWhole
  gg
  cV (r_next hn (by omega))
  cS (r_isDigit _)
  refine w_if1 rfl (fun _ => ?_) (fun h5 => absurd (c_ne0.mpr h1) h5)
  gto 16
  exact w_lv (lp 7 0 c.pl 0 (by decide) hp (by decide)) rfl ⟨rfl, rfl, rfl, trivial⟩
end TX
end
section
/-! what a text says, apart from any machine -/
structure ax_Rw where
  lim : Nat → Nat
  s : Nat
  fr : Nat → Nat
  ce : Nat → Nat
  dy : Nat
section RD
variable (n : Nat) (f : Nat → Int32)
/-- limits number i to 5, k of them, from p on -/
def rl : Nat → Nat → Nat → (Nat → Nat) → Nat ⊕ (Nat × (Nat → Nat))
  | 0, _, p, l => .inr (p, l)
  | k + 1, i, p, l =>
    if i ≠ 0 ∧ nx n f p ≠ 44 then .inl p
    else if wok n f (if i = 0 then p else p + 1) then rl k (i + 1) ((if i = 0 then p else p + 1) + wd n f (if i = 0 then p else p + 1)) (va_up l i (wv n f (if i = 0 then p else p + 1)))
    else .inl ((if i = 0 then p else p + 1) + wd n f (if i = 0 then p else p + 1))
/-- steps -/
def rs : Nat → Nat → Nat → (Nat → Nat) → (Nat → Nat) → Nat ⊕ (Nat × Nat × (Nat → Nat) × (Nat → Nat))
  | 0, _, p, _, _ => .inl p
  | k + 1, s, p, fr, ce =>
    if ¬ wok n f p then .inl (p + wd n f p)
    else if nx n f (p + wd n f p) ≠ 64 then .inl (p + wd n f p)
    else if ¬ wok n f (p + wd n f p + 1) then .inl (p + wd n f p + 1 + wd n f (p + wd n f p + 1))
    else if nx n f (p + wd n f p + 1 + wd n f (p + wd n f p + 1)) = 44 then rs k (s + 1) (p + wd n f p + 1 + wd n f (p + wd n f p + 1) + 1) (va_up fr s (wv n f p)) (va_up ce s (wv n f (p + wd n f p + 1)))
    else .inr (p + wd n f p + 1 + wd n f (p + wd n f p + 1), s + 1, va_up fr s (wv n f p), va_up ce s (wv n f (p + wd n f p + 1)))
/-- days, and the class's end -/
def rd (p : Nat) : Nat ⊕ (Nat × Nat) :=
  if nx n f p ≠ 47 then .inl p else if ¬ wok n f (p + 1) then .inl (p + 1 + wd n f (p + 1)) else if nx n f (p + 1 + wd n f (p + 1)) ≠ 59 then .inl (p + 1 + wd n f (p + 1)) else .inr (p + 1 + wd n f (p + 1) + 1, wv n f (p + 1))
end RD
/-- a step is good behind those before it -/
def sok (fr ce : Nat → Nat) (i : Nat) : Prop := i < 4 ∧ (if i = 0 then 0 else fr (i - 1)) < fr i ∧ fr i ≤ 1000000 ∧ 1 ≤ ce i ∧ ce i ≤ 1000000
instance (fr ce : Nat → Nat) (i : Nat) : Decidable (sok fr ce i) := inferInstanceAs (Decidable (_ ∧ _))
section PRows
variable {C : Nat → List Value → ax_H → ax_R → Prop} {M : ax_M} {Q : ax_R → Prop} {pc nxt tg : Nat} {lv lv' : ax_L} {st st' : List Value}
variable {L : Nat} {xs : Nat → Int32} {c : ax_St} {m : ax_Mo} {o : Nat → Int64} {P X : List (Option ax_C)} {u : Nat}
theorem ga {j : Nat} {x : Option ax_C} (hX : X[j]? = some x) : (P ++ X)[P.length + j]? = some x := by
  rw [List.getElem?_append_right (by omega)]
  rw [show P.length + j - P.length = j by omega]
  exact hX
theorem sa {j : Nat} {y : Option ax_C} : (P ++ X).set (P.length + j) y = P ++ X.set j y := by
  rw [List.set_append_right _ _ (by omega)]
  rw [show P.length + j - P.length = j by omega]
theorem w_getP {ix ci i : Nat} {fs : List Value} {v : Value} (j : Nat) (hd : M.2.2.1.lookup pc = some (.getfield ix, nxt, tg)) (hf : ax_tF.lookup (ax_key M ix) = some (ci, i)) (hc : X[j]? = some (some (.inr (ci, fs)))) (hv : fs[i]? = some v) (k : ax_wp C M Q nxt lv (v :: st) (ax_hp L xs c m o (P ++ X), u)) : ax_wp C M Q pc lv (.ref (P.length + j + 40) :: st) (ax_hp L xs c m o (P ++ X), u) :=
  w_get hd hf (hp_at (ga hc)) hv k
theorem w_putP {ix ci i : Nat} {fs : List Value} {v : Value} (j : Nat) (hd : M.2.2.1.lookup pc = some (.putfield ix, nxt, tg)) (hf : ax_tF.lookup (ax_key M ix) = some (ci, i)) (hc : X[j]? = some (some (.inr (ci, fs)))) (hl : i < fs.length) (hw : ax_fin ci i = false ∨ (M.2.2.2.2 = true ∧ M.1 = ci)) (hn : narrow (ax_ty ci i) v = v) (ht : fits (ax_ty ci i) v = true)
    (k : ax_wp C M Q nxt lv st (ax_hp L xs c m o (P ++ X.set j (some (.inr (ci, fs.set i v)))), u)) : ax_wp C M Q pc lv (v :: .ref (P.length + j + 40) :: st) (ax_hp L xs c m o (P ++ X), u) := by
  rw [← sa] at k
  exact w_put hd hf (hp_at (ga hc)) hl hw hn ht k
theorem w_iaP {n i : Nat} {x : Int32} {f : Nat → Int32} (j : Nat) (hd : M.2.2.1.lookup pc = some (.iaload, nxt, tg)) (hc : X[j]? = some (some (.inl (0, n, .inl f)))) (hx : x = nI i) (hl : i < n) (hn : n ≤ 1000000) (k : ax_wp C M Q nxt lv (.int (f i) :: st) (ax_hp L xs c m o (P ++ X), u)) : ax_wp C M Q pc lv (.int x :: .ref (P.length + j + 40) :: st) (ax_hp L xs c m o (P ++ X), u) :=
  w_ia hd (hp_at (ga hc)) hx hl hn k
theorem w_iasP {n i : Nat} {x y : Int32} {f : Nat → Int32} (j : Nat) (hd : M.2.2.1.lookup pc = some (.iastore, nxt, tg)) (hc : X[j]? = some (some (.inl (0, n, .inl f)))) (hx : x = nI i) (hl : i < n) (hn : n ≤ 1000000) (k : ax_wp C M Q nxt lv st (ax_hp L xs c m o (P ++ X.set j (some (.inl (0, n, .inl (upd f i y))))), u)) : ax_wp C M Q pc lv (.int y :: .int x :: .ref (P.length + j + 40) :: st) (ax_hp L xs c m o (P ++ X), u) := by
  rw [← sa] at k
  exact w_ias hd (hp_at (ga hc)) hx hl hn k
theorem w_newaP {t : ArrayType} {n : Int32} {q nn : Nat} (kk : Nat) (hd : M.2.2.1.lookup pc = some (.newarray t, nxt, tg)) (ht : ax_ak t = some q) (hn : ¬ n < 0) (hm : n.toNatClampNeg = nn) (hle : nn ≤ 1000000) (hk : X.length = kk) (k : ax_wp C M Q nxt lv (.ref (P.length + kk + 40) :: st) (ax_hp L xs c m o (P ++ (X ++ [some (.inl (q, nn, ax_blank q))])), u + nn)) : ax_wp C M Q pc lv (.int n :: st) (ax_hp L xs c m o (P ++ X), u) := by
  subst hm
  refine w_newa hd ht hn hle ?_
  have e1 : (ax_hp L xs c m o (P ++ X)).length = P.length + kk + 40 := by
    show (P ++ X).length + 40 = _
    rw [List.length_append, hk]
  have e2 : ax_hp L xs c m o (P ++ X) ++ [some (.inl (q, n.toNatClampNeg, ax_blank q))] = ax_hp L xs c m o (P ++ (X ++ [some (.inl (q, n.toNatClampNeg, ax_blank q))])) := by
    show ax_hp L xs c m o (P ++ X ++ [_]) = _
    rw [List.append_assoc]
  rw [e1, e2]
  exact k
end PRows
/-- a grade's four cells -/
def gC (b : Nat) (lim fr ce : Nat → Int32) (s : Nat) (dy can : Int32) : List (Option ax_C) :=
  [ax_ob 3 [.ref (b + 1 + 40), .ref (b + 2 + 40), .ref (b + 3 + 40), .int (nI s), .int dy, .int can], ax_aI 6 lim, ax_aI 4 fr, ax_aI 4 ce]
section GRD
variable {L : Nat} {xs : Nat → Int32} {c : ax_St} {m : ax_Mo} {o : Nat → Int64} {P : List (Option ax_C)} {u : Nat}
theorem r_Gr_init : ax_run m_Gr_init [.ref (P.length + 0 + 40)] (ax_hp L xs c m o (P ++ [ax_ob 3 (ax_dfl 3)]), u) (.inl none, (ax_hp L xs c m o (P ++ gC P.length (fun _ => 0) (fun _ => 0) (fun _ => 0) 0 0 1), u + 6 + 4 + 4)) := by
  startR M_Gr_init
  gg
  refine w_oi rfl (by decide) (Nat.le_of_ble_eq_true rfl) ?_
  gg
  refine w_newaP 1 rfl rfl (by decide) (nn := 6) (by decide) (by decide) rfl ?_
  refine w_putP 0 rfl rfl rfl (Nat.le_of_ble_eq_true rfl) (Or.inr ⟨rfl, rfl⟩) rfl rfl ?_
  gg
  refine w_newaP 2 rfl rfl (by decide) (nn := 4) (by decide) (by decide) rfl ?_
  refine w_putP 0 rfl rfl rfl (Nat.le_of_ble_eq_true rfl) (Or.inr ⟨rfl, rfl⟩) rfl rfl ?_
  gg
  refine w_newaP 3 rfl rfl (by decide) (nn := 4) (by decide) (by decide) rfl ?_
  refine w_putP 0 rfl rfl rfl (Nat.le_of_ble_eq_true rfl) (Or.inr ⟨rfl, rfl⟩) rfl rfl ?_
  gg
  refine w_putP 0 rfl rfl rfl (Nat.le_of_ble_eq_true rfl) (Or.inl rfl) rfl rfl ?_
  refine w_vret rfl rfl ?_
  rfl
theorem r_setLimit1 {lim fr ce : Nat → Int32} {s : Nat} {dy can : Int32} (i v : Nat) (hi : i < 6) (hv : v ≤ 1000000) : ax_run m_Gr_setLimit [.ref (P.length + 0 + 40), .int (nI i), .int (nI v)] (ax_hp L xs c m o (P ++ gC P.length lim fr ce s dy can), u) (.inl none, (ax_hp L xs c m o (P ++ gC P.length (upd lim i (nI v)) fr ce s dy can), u)) := by
  startR M_Gr_setLimit
  gg
  refine w_if1 rfl (fun h5 => absurd (c_lt0.mp h5) (by rw [q_nI' (by omega)]; omega)) (fun _ => ?_)
  gg
  refine w_if2 rfl (fun h5 => absurd ((cn_ge (a := i) (b := 6) (by omega) (by omega)).mp h5) (by omega)) (fun _ => ?_)
  gg
  refine w_if2 rfl (fun _ => ?_) (fun h5 => absurd (show nI v ≤ (1000000 : Int32) from Int32.le_iff_toInt_le.mpr (by rw [q_nI' (by omega)]; show (v : Int) ≤ 1000000; omega)) h5)
  gg
  refine w_getP 0 rfl rfl rfl rfl ?_
  gg
  refine w_iasP 1 rfl rfl rfl hi (by decide) ?_
  refine w_vret rfl rfl ?_
  rfl
theorem r_setLimit0 {lim fr ce : Nat → Int32} {s : Nat} {dy can : Int32} (i v : Nat) (hi : i < 6) (hv : 1000000 < v) (hv2 : v < 10000000) : ax_run m_Gr_setLimit [.ref (P.length + 0 + 40), .int (nI i), .int (nI v)] (ax_hp L xs c m o (P ++ gC P.length lim fr ce s dy can), u) (.inl none, (ax_hp L xs c m o (P ++ gC P.length lim fr ce s dy 0), u)) := by
  startR M_Gr_setLimit
  gg
  refine w_if1 rfl (fun h5 => absurd (c_lt0.mp h5) (by rw [q_nI' (by omega)]; omega)) (fun _ => ?_)
  gg
  refine w_if2 rfl (fun h5 => absurd ((cn_ge (a := i) (b := 6) (by omega) (by omega)).mp h5) (by omega)) (fun _ => ?_)
  gg
  refine w_if2 rfl (fun h5 => ?_) (fun _ => ?_)
  · have h6 := Int32.le_iff_toInt_le.mp (show nI v ≤ (1000000 : Int32) from h5)
    rw [q_nI' (by omega)] at h6
    have h7 : (v : Int) ≤ 1000000 := h6
    omega
  gg
  refine w_putP 0 rfl rfl rfl (Nat.le_of_ble_eq_true rfl) (Or.inl rfl) rfl rfl ?_
  refine w_vret rfl rfl ?_
  rfl
theorem r_setDays1 {lim fr ce : Nat → Int32} {s : Nat} {dy can : Int32} (v : Nat) (hv : v ≤ 1000) : ax_run m_Gr_setDays [.ref (P.length + 0 + 40), .int (nI v)] (ax_hp L xs c m o (P ++ gC P.length lim fr ce s dy can), u) (.inl none, (ax_hp L xs c m o (P ++ gC P.length lim fr ce s (nI v) can), u)) := by
  startR M_Gr_setDays
  gg
  refine w_if2 rfl (fun _ => ?_) (fun h5 => absurd (show nI v ≤ (Int16.ofInt 1000).toInt32 from Int32.le_iff_toInt_le.mpr (by rw [q_nI' (by omega), q_b16]; omega)) h5)
  gg
  refine w_putP 0 rfl rfl rfl (Nat.le_of_ble_eq_true rfl) (Or.inl rfl) rfl rfl ?_
  refine w_vret rfl rfl ?_
  rfl
theorem r_setDays0 {lim fr ce : Nat → Int32} {s : Nat} {dy can : Int32} (v : Nat) (hv : 1000 < v) (hv2 : v < 10000000) : ax_run m_Gr_setDays [.ref (P.length + 0 + 40), .int (nI v)] (ax_hp L xs c m o (P ++ gC P.length lim fr ce s dy can), u) (.inl none, (ax_hp L xs c m o (P ++ gC P.length lim fr ce s dy 0), u)) := by
  startR M_Gr_setDays
  gg
  refine w_if2 rfl (fun h5 => ?_) (fun _ => ?_)
  · have h6 := Int32.le_iff_toInt_le.mp (show nI v ≤ (Int16.ofInt 1000).toInt32 from h5)
    rw [q_nI' (by omega), q_b16] at h6
    omega
  gg
  refine w_putP 0 rfl rfl rfl (Nat.le_of_ble_eq_true rfl) (Or.inl rfl) rfl rfl ?_
  refine w_vret rfl rfl ?_
  rfl
/-- a step: ah is what the last step has -/
theorem r_addStep {lim fr ce : Nat → Int32} {s : Nat} {dy can : Int32} (a v ah : Nat) (hs : s ≤ 4) (ha : a < 10000000) (hv : v < 10000000) (hah : ah < 10000000) (h0 : s = 0 → ah = 0) (h1 : s ≠ 0 → fr (s - 1) = nI ah) : ax_run m_Gr_addStep [.ref (P.length + 0 + 40), .int (nI a), .int (nI v)] (ax_hp L xs c m o (P ++ gC P.length lim fr ce s dy can), u)
    (if s < 4 ∧ ah < a ∧ a ≤ 1000000 ∧ 1 ≤ v ∧ v ≤ 1000000 then (.inl none, (ax_hp L xs c m o (P ++ gC P.length lim (upd fr s (nI a)) (upd ce s (nI v)) (s + 1) dy can), u)) else (.inl none, (ax_hp L xs c m o (P ++ gC P.length lim fr ce s dy 0), u))) := by
  have bad : ¬ (s < 4 ∧ ah < a ∧ a ≤ 1000000 ∧ 1 ≤ v ∧ v ≤ 1000000) → ∀ (lv : ax_L), ax_wp ax_run M_Gr_addStep (fun r' => r' = (if s < 4 ∧ ah < a ∧ a ≤ 1000000 ∧ 1 ≤ v ∧ v ≤ 1000000 then (.inl none, (ax_hp L xs c m o (P ++ gC P.length lim (upd fr s (nI a)) (upd ce s (nI v)) (s + 1) dy can), u)) else (.inl none, (ax_hp L xs c m o (P ++ gC P.length lim fr ce s dy 0), u)))) 53 [(0, .ref (P.length + 0 + 40))] [] (ax_hp L xs c m o (P ++ gC P.length lim fr ce s dy can), u) := by
    intro hb _
    gg
    refine w_putP 0 rfl rfl rfl (Nat.le_of_ble_eq_true rfl) (Or.inl rfl) rfl rfl ?_
    refine w_vret rfl rfl ?_
    rw [if_neg hb]
    rfl
  have main : ax_wp ax_run M_Gr_addStep (fun r' => r' = (if s < 4 ∧ ah < a ∧ a ≤ 1000000 ∧ 1 ≤ v ∧ v ≤ 1000000 then (.inl none, (ax_hp L xs c m o (P ++ gC P.length lim (upd fr s (nI a)) (upd ce s (nI v)) (s + 1) dy can), u)) else (.inl none, (ax_hp L xs c m o (P ++ gC P.length lim fr ce s dy 0), u)))) 23 [(0, .ref (P.length + 0 + 40)), (1, .int (nI a)), (2, .int (nI v)), (3, .int (nI ah))] [] (ax_hp L xs c m o (P ++ gC P.length lim fr ce s dy can), u) := by
    gg
    refine w_getP 0 rfl rfl rfl rfl ?_
    gg
    refine w_if2 rfl (fun h5 => ?_) (fun h5 => ?_)
    · have h6 := (cn_ge (a := s) (b := 4) (by omega) (by omega)).mp h5
      exact w_lv (bad (fun z => by omega) []) rfl ⟨rfl, trivial⟩
    have g1 : ¬ 4 ≤ s := fun z => h5 ((cn_ge (a := s) (b := 4) (by omega) (by omega)).mpr z)
    gg
    refine w_if2 rfl (fun h5 => ?_) (fun h5 => ?_)
    · have h6 := Int32.le_iff_toInt_le.mp (show nI a ≤ nI ah from h5)
      rw [q_nI' (by omega), q_nI' (by omega)] at h6
      exact w_lv (bad (fun z => by omega) []) rfl ⟨rfl, trivial⟩
    have g2 : ¬ (nI a).toInt ≤ (nI ah).toInt := fun z => h5 (Int32.le_iff_toInt_le.mpr z)
    rw [q_nI' (by omega), q_nI' (by omega)] at g2
    gg
    refine w_if2 rfl (fun h5 => ?_) (fun h5 => ?_)
    · have h6 := Int32.lt_iff_toInt_lt.mp (show (1000000 : Int32) < nI a from h5)
      rw [q_nI' (by omega)] at h6
      have h7 : (1000000 : Int) < a := h6
      exact w_lv (bad (fun z => by omega) []) rfl ⟨rfl, trivial⟩
    have g3 : ¬ ((1000000 : Int32)).toInt < (nI a).toInt := fun z => h5 (Int32.lt_iff_toInt_lt.mpr z)
    rw [q_nI' (by omega)] at g3
    have g3' : ¬ (1000000 : Int) < a := g3
    gg
    refine w_if2 rfl (fun h5 => ?_) (fun h5 => ?_)
    · have h6 := (cn_lt (a := v) (b := 1) (by omega) (by omega)).mp h5
      exact w_lv (bad (fun z => by omega) []) rfl ⟨rfl, trivial⟩
    have g4 : ¬ v < 1 := fun z => h5 ((cn_lt (a := v) (b := 1) (by omega) (by omega)).mpr z)
    gg
    refine w_if2 rfl (fun h5 => ?_) (fun h5 => ?_)
    · have h6 := Int32.le_iff_toInt_le.mp (show nI v ≤ (1000000 : Int32) from h5)
      rw [q_nI' (by omega)] at h6
      have h7 : (v : Int) ≤ 1000000 := h6
      rw [if_pos (by omega)]
      gg
      refine w_getP 0 rfl rfl rfl rfl ?_
      gg
      refine w_getP 0 rfl rfl rfl rfl ?_
      gg
      refine w_iasP 2 rfl rfl rfl (by omega) (by decide) ?_
      gg
      refine w_getP 0 rfl rfl rfl rfl ?_
      gg
      refine w_getP 0 rfl rfl rfl rfl ?_
      gg
      refine w_iasP 3 rfl rfl rfl (by omega) (by decide) ?_
      gg
      refine w_getP 0 rfl rfl rfl rfl ?_
      gg
      refine w_putP 0 rfl rfl rfl (Nat.le_of_ble_eq_true rfl) (Or.inl rfl) rfl rfl ?_
      refine w_vret rfl rfl ?_
      rfl
    · have g5 : ¬ (nI v).toInt ≤ ((1000000 : Int32)).toInt := fun z => h5 (Int32.le_iff_toInt_le.mpr z)
      rw [q_nI' (by omega)] at g5
      have g5' : ¬ (v : Int) ≤ 1000000 := g5
      exact w_lv (bad (fun z => by omega) []) rfl ⟨rfl, trivial⟩
  startR M_Gr_addStep
  gg
  refine w_getP 0 rfl rfl rfl rfl ?_
  by_cases hz : s = 0
  · have hah0 := h0 hz
    subst hah0
    refine w_if1 rfl (fun h5 => absurd (show nI s = 0 by rw [hz]; rfl) h5) (fun _ => ?_)
    gto 23
    exact w_lv main rfl ⟨rfl, rfl, rfl, rfl, trivial⟩
  · have hfr := h1 hz
    refine w_if1 rfl (fun _ => ?_) (fun h5 => ?_)
    · gg
      refine w_getP 0 rfl rfl rfl rfl ?_
      gg
      refine w_getP 0 rfl rfl rfl rfl ?_
      gg
      refine w_iaP (i := s - 1) 2 rfl rfl ?_ (by omega) (by decide) ?_
      · have : s = (s - 1) + 1 := by omega
        rw [this, nI_succ]
        show nI (s - 1) + 1 - 1 = _
        rw [Int32.add_sub_cancel]
        rfl
      rw [hfr]
      gto 23
      exact w_lv main rfl ⟨rfl, rfl, rfl, rfl, trivial⟩
    · have h6 : nI s = 0 := Decidable.not_not.mp h5
      have := congrArg Int32.toInt h6
      rw [q_nI' (by omega)] at this
      have h7 : (s : Int) = 0 := this
      omega
end GRD
end
section
section RLS
variable {L : Nat} {xs : Nat → Int32} {c : ax_St} {m : ax_Mo} {o : Nat → Int64} {P : List (Option ax_C)} {u : Nat}
def lok (l : Nat → Nat) (i : Nat) : Prop := ∀ j, j < i → l j ≤ 1000000
instance (l : Nat → Nat) (i : Nat) : Decidable (lok l i) := inferInstanceAs (Decidable (∀ j, j < i → l j ≤ 1000000))
structure LimOk (l : Nat → Nat) (lim : Nat → Int32) (i : Nat) (can : Int32) : Prop where
  can : can = bI (lok l i)
  eq : lok l i → ∀ j, j < i → lim j = nI (l j)
/-- how the reading of limits ends -/
def PostL (n : Nat) (f : Nat → Int32) (q : Nat ⊕ (Nat × (Nat → Nat))) (b : Int32) (p : Nat) (lim : Nat → Int32) (can : Int32) : Prop := match q with
  | .inl e => p = e ∧ (b = 0 ∨ (b = 1 ∧ dg n f e))
  | .inr (e, l) => p = e ∧ b = 1 ∧ LimOk l lim 6 can
def QL (L : Nat) (xs : Nat → Int32) (c : ax_St) (m : ax_Mo) (o : Nat → Int64) (P : List (Option ax_C)) (u : Nat) (fr ce : Nat → Int32) (s : Nat) (dy : Int32) (q : Nat ⊕ (Nat × (Nat → Nat))) (r : ax_R) : Prop :=
  ∃ (b : Int32) (p : Nat) (lim : Nat → Int32) (can : Int32), r = (.inl (some (.int b)), (ax_hp L xs { c with pl := p } m o (P ++ gC P.length lim fr ce s dy can), u)) ∧ PostL c.tl c.ch q b p lim can
theorem dg_ne {n : Nat} {f : Nat → Int32} {p : Nat} {x : Int32} (h : dg n f p) (hx : ¬ (48 ≤ x.toInt ∧ x.toInt ≤ 57)) : ¬ nx n f p = x := by
  intro z
  apply hx
  rw [← z]
  exact h
theorem r_readLimits {fr ce : Nat → Int32} {s : Nat} {dy : Int32} (hn : c.tl ≤ 400) (p : Nat) (hp : p ≤ c.tl) :
    ax_T m_Tx_readLimits [.ref 2, .ref (P.length + 0 + 40)] (ax_hp L xs { c with pl := p } m o (P ++ gC P.length (fun _ => 0) fr ce s dy 1), u) (QL L xs c m o P u fr ce s dy (rl c.tl c.ch 6 0 p (fun _ => 0))) := by
  have ov : ∀ (i e : Nat) (lim : Nat → Int32) (can : Int32), 1 ≤ i → i ≤ 6 → e ≤ c.tl → dg c.tl c.ch e → ax_wp ax_run M_Tx_readLimits (QL L xs c m o P u fr ce s dy (.inl e)) 2 [(0, .ref 2), (1, .ref (P.length + 0 + 40)), (2, .int (nI i))] [] (ax_hp L xs { c with pl := e } m o (P ++ gC P.length lim fr ce s dy can), u) := by
    intro i e lim can h1 h2 h3 h4
    gg
    by_cases h6 : i = 6
    · subst h6
      refine w_if2 rfl (fun _ => ?_) (fun h5 => absurd ((cn_ge (a := 6) (b := 6) (by omega) (by omega)).mpr (Nat.le_refl _)) h5)
      gg
      ir
      exact ⟨1, e, lim, can, rfl, rfl, Or.inr ⟨rfl, h4⟩⟩
    · refine w_if2 rfl (fun h5 => absurd ((cn_ge (a := i) (b := 6) (by omega) (by omega)).mp h5) (by omega)) (fun _ => ?_)
      gg
      refine w_if1 rfl (fun h5 => absurd (Int32.le_iff_toInt_le.mp (show nI i ≤ 0 from h5)) (by rw [q_nI' (by omega)]; show ¬ (i : Int) ≤ 0; omega)) (fun _ => ?_)
      gg
      cV (r_passes0 (c := { c with pl := e }) hn (by show e ≤ 1000; omega) (Int8.ofInt 44).toInt32 (dg_ne h4 (by decide)))
      refine w_if1 rfl (fun h5 => absurd rfl h5) (fun _ => ?_)
      gg
      ir
      exact ⟨0, e, lim, can, rfl, rfl, Or.inl rfl⟩
  have lp : ∀ (k i p : Nat) (l : Nat → Nat) (lim : Nat → Int32) (can : Int32), i + k = 6 → p ≤ c.tl → LimOk l lim i can → ax_wp ax_run M_Tx_readLimits (QL L xs c m o P u fr ce s dy (rl c.tl c.ch k i p l)) 2 [(0, .ref 2), (1, .ref (P.length + 0 + 40)), (2, .int (nI i))] [] (ax_hp L xs { c with pl := p } m o (P ++ gC P.length lim fr ce s dy can), u) := by
    intro k
    induction k with
    | zero =>
      intro i p l lim can hi hp hl
      have : i = 6 := by omega
      subst this
      gg
      refine w_if2 rfl (fun _ => ?_) (fun h5 => absurd ((cn_ge (a := 6) (b := 6) (by omega) (by omega)).mpr (Nat.le_refl _)) h5)
      gg
      ir
      exact ⟨1, p, lim, can, rfl, rfl, rfl, hl⟩
    | succ k ih =>
      intro i p l lim can hi hp hl
      /- the number itself, from q on -/
      have num : ∀ q, q ≤ c.tl → q = (if i = 0 then p else p + 1) → (rl c.tl c.ch (k + 1) i p l = if wok c.tl c.ch q then rl c.tl c.ch k (i + 1) (q + wd c.tl c.ch q) (va_up l i (wv c.tl c.ch q)) else .inl (q + wd c.tl c.ch q)) → ax_wp ax_run M_Tx_readLimits (QL L xs c m o P u fr ce s dy (rl c.tl c.ch (k + 1) i p l)) 23 [(0, .ref 2), (1, .ref (P.length + 0 + 40)), (2, .int (nI i))] [] (ax_hp L xs { c with pl := q } m o (P ++ gC P.length lim fr ce s dy can), u) := by
        intro q hq hqe hrl
        rw [hrl]
        have hwn := wd_n (f := c.ch) hq
        have hvl := wv_lt c.tl c.ch q
        gg
        by_cases h0 : wd c.tl c.ch q = 0
        · rw [if_neg (fun z => z.1 h0), h0]
          cV (r_whole0 (c := { c with pl := q }) hn (by show q ≤ 1000; omega) h0)
          gg
          refine w_if2 rfl (fun h5 => absurd rfl h5) (fun _ => ?_)
          gg
          ir
          exact ⟨0, q, lim, can, rfl, rfl, Or.inl rfl⟩
        · cV (r_whole1 (c := { c with pl := q }) hn hq h0)
          gg
          refine w_if2 rfl (fun _ => ?_) (fun h5 => absurd (Decidable.not_not.mp h5) (nI_ne (by omega)))
          gg
          have set1 : ∃ (lim' : Nat → Int32) (can' : Int32), LimOk (va_up l i (wv c.tl c.ch q)) lim' (i + 1) can' ∧ ax_run m_Gr_setLimit [.ref (P.length + 0 + 40), .int (nI i), .int (nI (wv c.tl c.ch q))] (ax_hp L xs { c with pl := q + wd c.tl c.ch q } m o (P ++ gC P.length lim fr ce s dy can), u) (.inl none, (ax_hp L xs { c with pl := q + wd c.tl c.ch q } m o (P ++ gC P.length lim' fr ce s dy can'), u)) := by
            by_cases hv : wv c.tl c.ch q ≤ 1000000
            · have hiff : lok (va_up l i (wv c.tl c.ch q)) (i + 1) ↔ lok l i := by
                constructor
                · intro z j hj
                  have := z j (by omega)
                  rw [va_up_ne _ _ (by omega)] at this
                  exact this
                · intro z j hj
                  by_cases hji : j = i
                  · subst hji; rw [va_up_self]; exact hv
                  · rw [va_up_ne _ _ hji]; exact z j (by omega)
              refine ⟨upd lim i (nI (wv c.tl c.ch q)), can, ⟨?_, fun z j hj => ?_⟩, r_setLimit1 i _ (by omega) hv⟩
              · rw [hl.can]
                exact bI_iff hiff.symm
              · unfold upd
                by_cases hji : j = i
                · subst hji; rw [if_pos rfl, va_up_self]
                · rw [if_neg hji, va_up_ne _ _ hji]; exact hl.eq (hiff.mp z) j (by omega)
            · have hno : ¬ lok (va_up l i (wv c.tl c.ch q)) (i + 1) := by
                intro z
                have := z i (by omega)
                rw [va_up_self] at this
                exact hv this
              exact ⟨lim, 0, ⟨(bI_f hno).symm, fun z => absurd z hno⟩, r_setLimit0 i _ (by omega) (by omega) hvl⟩
          obtain ⟨lim', can', hl', hset⟩ := set1
          refine w_cv rfl rfl rfl (hp_at (ga (X := gC P.length lim fr ce s dy can) (j := 0) rfl)) (Nat.le_of_ble_eq_true rfl) (Nat.le_of_ble_eq_true rfl) hset ?_
          dsimp only [Option.toList, List.drop, List.cons_append, List.nil_append]
          by_cases hov : dg c.tl c.ch (q + wd c.tl c.ch q)
          · rw [if_neg (fun z => z.2 hov)]
            gto 2
            exact w_lv (ov (i + 1) (q + wd c.tl c.ch q) lim' can' (by omega) (by omega) hwn hov) rfl ⟨rfl, rfl, rfl, trivial⟩
          · rw [if_pos ⟨h0, hov⟩]
            gto 2
            exact w_lv (ih (i + 1) (q + wd c.tl c.ch q) _ lim' can' (by omega) hwn hl') rfl ⟨rfl, rfl, rfl, trivial⟩
      gg
      refine w_if2 rfl (fun h5 => absurd ((cn_ge (a := i) (b := 6) (by omega) (by omega)).mp h5) (by omega)) (fun _ => ?_)
      gg
      by_cases hi0 : i = 0
      · subst hi0
        refine w_if1 rfl (fun _ => ?_) (fun h5 => absurd (show nI 0 ≤ 0 by decide) h5)
        refine w_lv (num p hp rfl ?_) rfl ⟨rfl, rfl, rfl, trivial⟩
        show (if (0 ≠ 0 ∧ _) then _ else _) = _
        rw [if_neg (fun z => z.1 rfl)]
        rfl
      · refine w_if1 rfl (fun h5 => absurd (Int32.le_iff_toInt_le.mp (show nI i ≤ 0 from h5)) (by rw [q_nI' (by omega)]; show ¬ (i : Int) ≤ 0; omega)) (fun _ => ?_)
        gg
        by_cases hc : nx c.tl c.ch p = 44
        · have hpl : p < c.tl := by
            by_cases z : p < c.tl
            · exact z
            · unfold nx at hc
              rw [if_neg z] at hc
              exact absurd hc (by decide)
          cV (r_passes1 (c := { c with pl := p }) hn (by show p ≤ 1000; omega) (Int8.ofInt 44).toInt32 hc)
          refine w_if1 rfl (fun _ => ?_) (fun h5 => absurd k_ne1 h5)
          refine w_lv (num (p + 1) (by omega) (by rw [if_neg hi0]) ?_) rfl ⟨rfl, rfl, rfl, trivial⟩
          show (if (i ≠ 0 ∧ nx c.tl c.ch p ≠ 44) then _ else _) = _
          rw [if_neg (fun z => z.2 hc)]
          simp only [if_neg hi0]
        · cV (r_passes0 (c := { c with pl := p }) hn (by show p ≤ 1000; omega) (Int8.ofInt 44).toInt32 hc)
          refine w_if1 rfl (fun h5 => absurd rfl h5) (fun _ => ?_)
          gg
          ir
          have e : rl c.tl c.ch (k + 1) i p l = .inl p := if_pos ⟨hi0, hc⟩
          rw [e]
          exact ⟨0, p, lim, can, rfl, rfl, Or.inl rfl⟩
  start M_Tx_readLimits
  gto 2
  refine w_lv (lp 6 0 p (fun _ => 0) (fun _ => 0) 1 (by omega) hp ⟨(bI_t (fun j hj => absurd hj (by omega))).symm, fun _ j hj => absurd hj (by omega)⟩) rfl ⟨rfl, rfl, rfl, trivial⟩
end RLS
end
section
section RST
variable {L : Nat} {xs : Nat → Int32} {c : ax_St} {m : ax_Mo} {o : Nat → Int64} {P : List (Option ax_C)} {u : Nat}
def stok (g0 : Prop) (fr ce : Nat → Nat) (s : Nat) : Prop := g0 ∧ ∀ i, i < s → sok fr ce i
instance (g0 : Prop) [Decidable g0] (fr ce : Nat → Nat) (s : Nat) : Decidable (stok g0 fr ce s) := inferInstanceAs (Decidable (g0 ∧ ∀ i, i < s → sok fr ce i))
structure StOk (g0 : Prop) [Decidable g0] (fr ce : Nat → Nat) (s : Nat) (fr' ce' : Nat → Int32) (s' : Nat) (can : Int32) : Prop where
  can : can = bI (stok g0 fr ce s)
  s4 : s' ≤ 4
  any : ∀ j, j < s' → ∃ z, z < 10000000 ∧ fr' j = nI z
  eq : stok g0 fr ce s → s' = s ∧ ∀ j, j < s → fr' j = nI (fr j) ∧ ce' j = nI (ce j)
theorem sok_up {fr ce : Nat → Nat} {s a v i : Nat} (h : i < s) : sok (va_up fr s a) (va_up ce s v) i ↔ sok fr ce i := by
  unfold sok
  rw [va_up_ne _ _ (by omega), va_up_ne _ _ (by omega), va_up_ne _ _ (by omega)]
theorem stok_up {g0 : Prop} {fr ce : Nat → Nat} {s a v : Nat} : stok g0 (va_up fr s a) (va_up ce s v) (s + 1) ↔ stok g0 fr ce s ∧ sok (va_up fr s a) (va_up ce s v) s := by
  constructor
  · intro h
    exact ⟨⟨h.1, fun i hi => (sok_up hi).mp (h.2 i (by omega))⟩, h.2 s (by omega)⟩
  · intro h
    refine ⟨h.1.1, fun i hi => ?_⟩
    by_cases his : i = s
    · subst his; exact h.2
    · exact (sok_up (by omega)).mpr (h.1.2 i (by omega))
/-- one step more -/
theorem r_step {g0 : Prop} [Decidable g0] {fr ce : Nat → Nat} {s : Nat} {fr' ce' : Nat → Int32} {s' : Nat} {can dy : Int32} {lim : Nat → Int32} (h : StOk g0 fr ce s fr' ce' s' can) (hraw : ∀ j, j < s → fr j < 10000000) (a v : Nat) (ha : a < 10000000) (hv : v < 10000000) :
    ∃ (fr2 ce2 : Nat → Int32) (s2 : Nat) (can2 : Int32), StOk g0 (va_up fr s a) (va_up ce s v) (s + 1) fr2 ce2 s2 can2 ∧ ax_run m_Gr_addStep [.ref (P.length + 0 + 40), .int (nI a), .int (nI v)] (ax_hp L xs c m o (P ++ gC P.length lim fr' ce' s' dy can), u) (.inl none, (ax_hp L xs c m o (P ++ gC P.length lim fr2 ce2 s2 dy can2), u)) := by
  obtain ⟨ah, hah, hz0, hz1⟩ : ∃ ah, ah < 10000000 ∧ (s' = 0 → ah = 0) ∧ (s' ≠ 0 → fr' (s' - 1) = nI ah) := by
    by_cases hz : s' = 0
    · exact ⟨0, by omega, fun _ => rfl, fun z => absurd hz z⟩
    · obtain ⟨z, h1, h2⟩ := h.any (s' - 1) (by omega)
      exact ⟨z, h1, fun q => absurd q hz, fun _ => h2⟩
  have hrun := r_addStep (L := L) (xs := xs) (c := c) (m := m) (o := o) (P := P) (u := u) (lim := lim) (fr := fr') (ce := ce') (s := s') (dy := dy) (can := can) a v ah h.s4 ha hv hah hz0 hz1
  by_cases hg : stok g0 fr ce s
  · obtain ⟨hs, heq⟩ := h.eq hg
    subst hs
    have hah2 : ah = (if s' = 0 then 0 else fr (s' - 1)) := by
      by_cases hz : s' = 0
      · rw [if_pos hz]; exact hz0 hz
      · rw [if_neg hz]
        have h1 := hz1 hz
        rw [(heq (s' - 1) (by omega)).1] at h1
        have h2 := congrArg Int32.toInt h1
        have h3 := hraw (s' - 1) (by omega)
        rw [q_nI' (by omega), q_nI' (by omega)] at h2
        omega
    have hcond : (s' < 4 ∧ ah < a ∧ a ≤ 1000000 ∧ 1 ≤ v ∧ v ≤ 1000000) ↔ sok (va_up fr s' a) (va_up ce s' v) s' := by
      unfold sok
      rw [va_up_self, va_up_self, hah2]
      by_cases hz : s' = 0
      · rw [if_pos hz, if_pos hz]
      · rw [if_neg hz, if_neg hz, va_up_ne _ _ (by omega)]
    by_cases hc : s' < 4 ∧ ah < a ∧ a ≤ 1000000 ∧ 1 ≤ v ∧ v ≤ 1000000
    · rw [if_pos hc] at hrun
      have hgood : stok g0 (va_up fr s' a) (va_up ce s' v) (s' + 1) := stok_up.mpr ⟨hg, hcond.mp hc⟩
      refine ⟨_, _, _, _, ⟨?_, by omega, fun j hj => ?_, fun _ => ⟨rfl, fun j hj => ?_⟩⟩, hrun⟩
      · rw [h.can, bI_t hg, bI_t hgood]
      · unfold upd
        by_cases hjs : j = s'
        · rw [if_pos hjs]; exact ⟨a, ha, rfl⟩
        · rw [if_neg hjs]; exact h.any j (by omega)
      · unfold upd
        by_cases hjs : j = s'
        · subst hjs
          rw [if_pos rfl, if_pos rfl, va_up_self, va_up_self]
          exact ⟨rfl, rfl⟩
        · rw [if_neg hjs, if_neg hjs, va_up_ne _ _ hjs, va_up_ne _ _ hjs]
          exact heq j (by omega)
    · rw [if_neg hc] at hrun
      have hbad : ¬ stok g0 (va_up fr s' a) (va_up ce s' v) (s' + 1) := fun z => hc (hcond.mpr (stok_up.mp z).2)
      exact ⟨_, _, _, _, ⟨(bI_f hbad).symm, h.s4, h.any, fun z => absurd z hbad⟩, hrun⟩
  · have hbad : ¬ stok g0 (va_up fr s a) (va_up ce s v) (s + 1) := fun z => hg (stok_up.mp z).1
    have hcan : can = 0 := by rw [h.can, bI_f hg]; rfl
    by_cases hc : s' < 4 ∧ ah < a ∧ a ≤ 1000000 ∧ 1 ≤ v ∧ v ≤ 1000000
    · rw [if_pos hc] at hrun
      refine ⟨_, _, _, _, ⟨?_, by omega, fun j hj => ?_, fun z => absurd z hbad⟩, hrun⟩
      · rw [hcan]; exact (bI_f hbad).symm
      · unfold upd
        by_cases hjs : j = s'
        · rw [if_pos hjs]; exact ⟨a, ha, rfl⟩
        · rw [if_neg hjs]; exact h.any j (by omega)
    · rw [if_neg hc] at hrun
      exact ⟨_, _, _, _, ⟨(bI_f hbad).symm, h.s4, h.any, fun z => absurd z hbad⟩, hrun⟩
def PostS (g0 : Prop) [Decidable g0] (n : Nat) (f : Nat → Int32) (q : Nat ⊕ (Nat × Nat × (Nat → Nat) × (Nat → Nat))) (b : Int32) (p : Nat) (fr' ce' : Nat → Int32) (s' : Nat) (can : Int32) : Prop := match q with
  | .inl e => p = e ∧ (b = 0 ∨ (b = 1 ∧ dg n f e))
  | .inr (e, s, fr, ce) => p = e ∧ b = 1 ∧ StOk g0 fr ce s fr' ce' s' can
def QS (g0 : Prop) [Decidable g0] (L : Nat) (xs : Nat → Int32) (c : ax_St) (m : ax_Mo) (o : Nat → Int64) (P : List (Option ax_C)) (u : Nat) (lim : Nat → Int32) (dy : Int32) (q : Nat ⊕ (Nat × Nat × (Nat → Nat) × (Nat → Nat))) (r : ax_R) : Prop :=
  ∃ (b : Int32) (p : Nat) (fr' ce' : Nat → Int32) (s' : Nat) (can : Int32), r = (.inl (some (.int b)), (ax_hp L xs { c with pl := p } m o (P ++ gC P.length lim fr' ce' s' dy can), u)) ∧ PostS g0 c.tl c.ch q b p fr' ce' s' can
theorem nx_lt {n : Nat} {f : Nat → Int32} {p : Nat} {x : Int32} (h : nx n f p = x) (hx : ¬ x = -1) : p < n := by
  by_cases z : p < n
  · exact z
  · unfold nx at h
    rw [if_neg z] at h
    exact absurd h.symm hx
theorem r_readSteps {g0 : Prop} [Decidable g0] {lim : Nat → Int32} {dy : Int32} (hn : c.tl ≤ 400) (p : Nat) (hp : p ≤ c.tl) :
    ax_T m_Tx_readSteps [.ref 2, .ref (P.length + 0 + 40)] (ax_hp L xs { c with pl := p } m o (P ++ gC P.length lim (fun _ => 0) (fun _ => 0) 0 dy (bI g0)), u) (QS g0 L xs c m o P u lim dy (rs c.tl c.ch 101 0 p (fun _ => 0) (fun _ => 0))) := by
  have lp : ∀ (k i p : Nat) (fr ce : Nat → Nat) (fr' ce' : Nat → Int32) (s' : Nat) (can : Int32), i + k = 101 → 4 * i ≤ p → p ≤ c.tl → (∀ j, j < i → fr j < 10000000) → StOk g0 fr ce i fr' ce' s' can → ax_wp ax_run M_Tx_readSteps (QS g0 L xs c m o P u lim dy (rs c.tl c.ch k i p fr ce)) 2 [(0, .ref 2), (1, .ref (P.length + 0 + 40)), (2, .int (nI i))] [] (ax_hp L xs { c with pl := p } m o (P ++ gC P.length lim fr' ce' s' dy can), u) := by
    intro k
    induction k with
    | zero => intro i p fr ce fr' ce' s' can hi h4 hp hraw hst; omega
    | succ k ih =>
      intro i p fr ce fr' ce' s' can hi h4 hp hraw hst
      have hwn := wd_n (f := c.ch) hp
      have hvl := wv_lt c.tl c.ch p
      gg
      refine w_if2 rfl (fun h5 => absurd ((cn_ge (a := i) (b := 400) (by omega) (by omega)).mp h5) (by omega)) (fun _ => ?_)
      gg
      unfold rs
      by_cases h0 : wd c.tl c.ch p = 0
      · rw [if_pos (fun z => z.1 h0), h0]
        cV (r_whole0 (c := { c with pl := p }) hn (by show p ≤ 1000; omega) h0)
        gg
        refine w_if2 rfl (fun _ => ?_) (fun h5 => absurd rfl h5)
        gg
        ir
        exact ⟨0, p, fr', ce', s', can, rfl, rfl, Or.inl rfl⟩
      · cV (r_whole1 (c := { c with pl := p }) hn hp h0)
        gg
        refine w_if2 rfl (fun h5 => absurd h5 (nI_ne (by omega))) (fun _ => ?_)
        gg
        by_cases hov : dg c.tl c.ch (p + wd c.tl c.ch p)
        · rw [if_pos (fun z => z.2 hov)]
          cV (r_passes0 (c := { c with pl := p + wd c.tl c.ch p }) hn (by show p + wd c.tl c.ch p ≤ 1000; omega) (Int8.ofInt 64).toInt32 (dg_ne hov (by decide)))
          refine w_if1 rfl (fun h5 => absurd rfl h5) (fun _ => ?_)
          gg
          ir
          exact ⟨0, _, fr', ce', s', can, rfl, rfl, Or.inl rfl⟩
        · rw [if_neg (fun z => z ⟨h0, hov⟩)]
          by_cases h64 : nx c.tl c.ch (p + wd c.tl c.ch p) = 64
          · rw [if_neg (fun z => z h64)]
            have hlt := nx_lt h64 (by decide)
            cV (r_passes1 (c := { c with pl := p + wd c.tl c.ch p }) hn (by show p + wd c.tl c.ch p ≤ 1000; omega) (Int8.ofInt 64).toInt32 h64)
            refine w_if1 rfl (fun _ => ?_) (fun h5 => absurd k_ne1 h5)
            gg
            have hq : p + wd c.tl c.ch p + 1 ≤ c.tl := by omega
            generalize hQ : p + wd c.tl c.ch p + 1 = q at hq
            have hwq := wd_n (f := c.ch) hq
            have hvq := wv_lt c.tl c.ch q
            by_cases h1 : wd c.tl c.ch q = 0
            · rw [if_pos (fun z => z.1 h1), h1]
              cV (r_whole0 (c := { c with pl := q }) hn (by show q ≤ 1000; omega) h1)
              gg
              refine w_if2 rfl (fun h5 => absurd rfl h5) (fun _ => ?_)
              gg
              ir
              exact ⟨0, q, fr', ce', s', can, rfl, rfl, Or.inl rfl⟩
            · cV (r_whole1 (c := { c with pl := q }) hn hq h1)
              gg
              refine w_if2 rfl (fun _ => ?_) (fun h5 => absurd (Decidable.not_not.mp h5) (nI_ne (by omega)))
              gg
              obtain ⟨fr2, ce2, s2, can2, hst2, hrun⟩ := r_step (L := L) (xs := xs) (c := { c with pl := q + wd c.tl c.ch q }) (m := m) (o := o) (P := P) (u := u) (dy := dy) (lim := lim) hst hraw (wv c.tl c.ch p) (wv c.tl c.ch q) hvl hvq
              refine w_cv rfl rfl rfl (hp_at (ga (X := gC P.length lim fr' ce' s' dy can) (j := 0) rfl)) (Nat.le_of_ble_eq_true rfl) (Nat.le_of_ble_eq_true rfl) hrun ?_
              dsimp only [Option.toList, List.drop, List.cons_append, List.nil_append]
              gg
              by_cases hov2 : dg c.tl c.ch (q + wd c.tl c.ch q)
              · rw [if_pos (fun z => z.2 hov2)]
                cV (r_passes0 (c := { c with pl := q + wd c.tl c.ch q }) hn (by show q + wd c.tl c.ch q ≤ 1000; omega) (Int8.ofInt 44).toInt32 (dg_ne hov2 (by decide)))
                refine w_if1 rfl (fun h5 => absurd rfl h5) (fun _ => ?_)
                gg
                ir
                exact ⟨1, _, fr2, ce2, s2, can2, rfl, rfl, Or.inr ⟨rfl, hov2⟩⟩
              · rw [if_neg (fun z => z ⟨h1, hov2⟩)]
                by_cases h44 : nx c.tl c.ch (q + wd c.tl c.ch q) = 44
                · rw [if_pos h44]
                  have hlt2 := nx_lt h44 (by decide)
                  cV (r_passes1 (c := { c with pl := q + wd c.tl c.ch q }) hn (by show q + wd c.tl c.ch q ≤ 1000; omega) (Int8.ofInt 44).toInt32 h44)
                  refine w_if1 rfl (fun _ => ?_) (fun h5 => absurd k_ne1 h5)
                  gto 2
                  refine w_lv (ih (i + 1) (q + wd c.tl c.ch q + 1) _ _ fr2 ce2 s2 can2 (by omega) (by omega) (by omega) (fun j hj => ?_) hst2) rfl ⟨rfl, rfl, rfl, trivial⟩
                  by_cases hji : j = i
                  · subst hji; rw [va_up_self]; exact hvl
                  · rw [va_up_ne _ _ hji]; exact hraw j (by omega)
                · rw [if_neg h44]
                  cV (r_passes0 (c := { c with pl := q + wd c.tl c.ch q }) hn (by show q + wd c.tl c.ch q ≤ 1000; omega) (Int8.ofInt 44).toInt32 h44)
                  refine w_if1 rfl (fun h5 => absurd rfl h5) (fun _ => ?_)
                  gg
                  ir
                  exact ⟨1, _, fr2, ce2, s2, can2, rfl, rfl, rfl, hst2⟩
          · rw [if_pos h64]
            cV (r_passes0 (c := { c with pl := p + wd c.tl c.ch p }) hn (by show p + wd c.tl c.ch p ≤ 1000; omega) (Int8.ofInt 64).toInt32 h64)
            refine w_if1 rfl (fun h5 => absurd rfl h5) (fun _ => ?_)
            gg
            ir
            exact ⟨0, _, fr', ce', s', can, rfl, rfl, Or.inl rfl⟩
  start M_Tx_readSteps
  gto 2
  refine w_lv (lp 101 0 p (fun _ => 0) (fun _ => 0) (fun _ => 0) (fun _ => 0) 0 (bI g0) (by omega) (by omega) hp (fun j hj => absurd hj (by omega)) ⟨bI_iff ⟨fun z => ⟨z, fun i hi => absurd hi (by omega)⟩, fun z => z.1⟩, by decide, fun j hj => absurd hj (by omega), fun _ => ⟨rfl, fun j hj => absurd hj (by omega)⟩⟩) rfl ⟨rfl, rfl, rfl, trivial⟩
end RST
end
section
/-- a class's text, from p on -/
def rg (n : Nat) (f : Nat → Int32) (p : Nat) : Nat ⊕ (Nat × ax_Rw) :=
  if nx n f p ≠ 67 then .inl p else match rl n f 6 0 (p + 1) (fun _ => 0) with
    | .inl e => .inl e
    | .inr (q, l) => if nx n f q ≠ 58 then .inl q else match rs n f 101 0 (q + 1) (fun _ => 0) (fun _ => 0) with
      | .inl e => .inl e
      | .inr (r, s, fr, ce) => match rd n f r with
        | .inl e => .inl e
        | .inr (t, dy) => .inr (t, ⟨l, s, fr, ce, dy⟩)
def gok (d : ax_Rw) : Prop := stok (lok d.lim 6) d.fr d.ce d.s ∧ d.dy ≤ 1000
instance (d : ax_Rw) : Decidable (gok d) := inferInstanceAs (Decidable (_ ∧ _))
/-- a grade says what the text says -/
structure GM (G : ax_Gr) (d : ax_Rw) : Prop where
  lim : ∀ j, j < 6 → G.lim j = nI (d.lim j)
  st : G.st = d.s
  fr : ∀ j, j < d.s → G.fr j = nI (d.fr j)
  ce : ∀ j, j < d.s → G.ce j = nI (d.ce j)
  dy : G.dy = nI d.dy
section RGD
variable {L : Nat} {xs : Nat → Int32} {c : ax_St} {m : ax_Mo} {o : Nat → Int64} {P : List (Option ax_C)} {u : Nat}
theorem r_readDays {lim fr ce : Nat → Int32} {s : Nat} {g : Prop} [Decidable g] (hn : c.tl ≤ 400) (p : Nat) (hp : p ≤ c.tl) (h0 : wd c.tl c.ch p ≠ 0) :
    ∃ (dy' can' : Int32), can' = bI (g ∧ wv c.tl c.ch p ≤ 1000) ∧ (g ∧ wv c.tl c.ch p ≤ 1000 → dy' = nI (wv c.tl c.ch p)) ∧ ax_run m_Tx_readDays [.ref 2, .ref (P.length + 0 + 40)] (ax_hp L xs { c with pl := p } m o (P ++ gC P.length lim fr ce s 0 (bI g)), u) (.inl (some (.int 1)), (ax_hp L xs { c with pl := p + wd c.tl c.ch p } m o (P ++ gC P.length lim fr ce s dy' can'), u)) := by
  have hvl := wv_lt c.tl c.ch p
  by_cases hv : wv c.tl c.ch p ≤ 1000
  · refine ⟨nI (wv c.tl c.ch p), bI g, bI_iff ⟨fun z => ⟨z, hv⟩, fun z => z.1⟩, fun _ => rfl, ?_⟩
    startR M_Tx_readDays
    gg
    cV (r_whole1 (c := { c with pl := p }) hn hp h0)
    gg
    refine w_if2 rfl (fun _ => ?_) (fun h5 => absurd (Decidable.not_not.mp h5) (nI_ne (by omega)))
    gg
    refine w_cv rfl rfl rfl (hp_at (ga (X := gC P.length lim fr ce s 0 (bI g)) (j := 0) rfl)) (Nat.le_of_ble_eq_true rfl) (Nat.le_of_ble_eq_true rfl) (r_setDays1 (wv c.tl c.ch p) hv) ?_
    dsimp only [Option.toList, List.drop, List.cons_append, List.nil_append]
    gg
    ir
    rfl
  · refine ⟨0, 0, (bI_f (fun z => hv z.2)).symm, fun z => absurd z.2 hv, ?_⟩
    startR M_Tx_readDays
    gg
    cV (r_whole1 (c := { c with pl := p }) hn hp h0)
    gg
    refine w_if2 rfl (fun _ => ?_) (fun h5 => absurd (Decidable.not_not.mp h5) (nI_ne (by omega)))
    gg
    refine w_cv rfl rfl rfl (hp_at (ga (X := gC P.length lim fr ce s 0 (bI g)) (j := 0) rfl)) (Nat.le_of_ble_eq_true rfl) (Nat.le_of_ble_eq_true rfl) (r_setDays0 (wv c.tl c.ch p) (by omega) hvl) ?_
    dsimp only [Option.toList, List.drop, List.cons_append, List.nil_append]
    gg
    ir
    rfl
theorem r_readDays0 {lim fr ce : Nat → Int32} {s : Nat} {dy can : Int32} (hn : c.tl ≤ 400) (p : Nat) (hp : p ≤ c.tl) (h0 : wd c.tl c.ch p = 0) :
    ax_run m_Tx_readDays [.ref 2, .ref (P.length + 0 + 40)] (ax_hp L xs { c with pl := p } m o (P ++ gC P.length lim fr ce s dy can), u) (.inl (some (.int 0)), (ax_hp L xs { c with pl := p } m o (P ++ gC P.length lim fr ce s dy can), u)) := by
  startR M_Tx_readDays
  gg
  cV (r_whole0 (c := { c with pl := p }) hn (by show p ≤ 1000; omega) h0)
  gg
  refine w_if2 rfl (fun h5 => absurd rfl h5) (fun _ => ?_)
  gg
  ir
  rfl
theorem rl_le (n : Nat) (f : Nat → Int32) : ∀ k i p l, p ≤ n → match rl n f k i p l with | .inl e => e ≤ n | .inr (q, _) => q ≤ n := by
  intro k
  induction k with
  | zero => intro i p l hp; exact hp
  | succ k ih =>
    intro i p l hp
    unfold rl
    by_cases h1 : i ≠ 0 ∧ nx n f p ≠ 44
    · rw [if_pos h1]; exact hp
    · rw [if_neg h1]
      have hq : (if i = 0 then p else p + 1) ≤ n := by
        by_cases hi : i = 0
        · rw [if_pos hi]; exact hp
        · rw [if_neg hi]
          have : nx n f p = 44 := Decidable.not_not.mp (fun z => h1 ⟨hi, z⟩)
          have := nx_lt this (by decide)
          omega
      have hw := wd_n (f := f) hq
      by_cases h2 : wok n f (if i = 0 then p else p + 1)
      · rw [if_pos h2]
        exact ih _ _ _ hw
      · rw [if_neg h2]
        exact hw
theorem rs_le (n : Nat) (f : Nat → Int32) : ∀ k s p fr ce, p ≤ n → match rs n f k s p fr ce with | .inl e => e ≤ n | .inr (q, _) => q ≤ n := by
  intro k
  induction k with
  | zero => intro s p fr ce hp; exact hp
  | succ k ih =>
    intro s p fr ce hp
    unfold rs
    have hw := wd_n (f := f) hp
    by_cases h1 : ¬ wok n f p
    · rw [if_pos h1]; exact hw
    · rw [if_neg h1]
      by_cases h2 : nx n f (p + wd n f p) ≠ 64
      · rw [if_pos h2]; exact hw
      · rw [if_neg h2]
        have hlt := nx_lt (Decidable.not_not.mp h2) (by decide)
        have hq : p + wd n f p + 1 ≤ n := by omega
        have hw2 := wd_n (f := f) hq
        by_cases h3 : ¬ wok n f (p + wd n f p + 1)
        · rw [if_pos h3]; exact hw2
        · rw [if_neg h3]
          by_cases h4 : nx n f (p + wd n f p + 1 + wd n f (p + wd n f p + 1)) = 44
          · rw [if_pos h4]
            have := nx_lt h4 (by decide)
            exact ih _ _ _ _ (by omega)
          · rw [if_neg h4]; exact hw2
/-- how the reading of a class ends -/
def QG (L : Nat) (xs : Nat → Int32) (c : ax_St) (m : ax_Mo) (o : Nat → Int64) (P : List (Option ax_C)) (u : Nat) (q : Nat ⊕ (Nat × ax_Rw)) (r : ax_R) : Prop := match q with
  | .inl e => ∃ (X : List (Option ax_C)) (u' : Nat), r = (.inl (some .null), (ax_hp L xs { c with pl := e } m o (P ++ X), u')) ∧ X.length ≤ 4 ∧ u' ≤ u + 20
  | .inr (t, d) => ∃ (lim fr ce : Nat → Int32) (s : Nat) (dy can : Int32), r = (.inl (some (.ref (P.length + 0 + 40))), (ax_hp L xs { c with pl := t } m o (P ++ gC P.length lim fr ce s dy can), u + 20)) ∧ can = bI (gok d) ∧ (gok d → GM ⟨lim, fr, ce, s, dy⟩ d)
theorem r_readGrade (hn : c.tl ≤ 400) (p : Nat) (hp : p ≤ c.tl) :
    ax_T m_Tx_readGrade [.ref 2] (ax_hp L xs { c with pl := p } m o P, u) (QG L xs c m o P u (rg c.tl c.ch p)) := by
  start M_Tx_readGrade
  gg
  unfold rg
  by_cases h67 : nx c.tl c.ch p = 67
  · rw [if_neg (fun z => z h67)]
    have hlt := nx_lt h67 (by decide)
    cV (r_passes1 (c := { c with pl := p }) hn (by show p ≤ 1000; omega) (Int8.ofInt 67).toInt32 h67)
    refine w_if1 rfl (fun _ => ?_) (fun h5 => absurd k_ne1 h5)
    refine w_new rfl rfl ?_
    have e1 : (ax_hp L xs { c with pl := p + 1 } m o P).length = P.length + 0 + 40 := rfl
    have e2 : ax_hp L xs { c with pl := p + 1 } m o P ++ [some (.inr (3, ax_dfl 3))] = ax_hp L xs { c with pl := p + 1 } m o (P ++ [ax_ob 3 (ax_dfl 3)]) := rfl
    show ax_wp _ _ _ _ _ [.ref (ax_hp L xs { c with pl := p + 1 } m o P).length] (ax_hp L xs { c with pl := p + 1 } m o P ++ [some (.inr (3, ax_dfl 3))], u + 6)
    rw [e1, e2]
    gg
    cN (r_Gr_init (c := { c with pl := p + 1 }) (P := P))
    gg
    have fl : ∀ (e : Nat) (X : List (Option ax_C)), X.length ≤ 4 → ax_wp ax_run M_Tx_readGrade (QG L xs c m o P u (.inl e)) 74 [] [] (ax_hp L xs { c with pl := e } m o (P ++ X), u + 6 + 6 + 4 + 4) := by
      intro e X hX
      gg
      refine w_if1 rfl (fun _ => ?_) (fun h5 => absurd rfl h5)
      gg
      exact w_aret rfl rfl rfl ⟨X, u + 6 + 6 + 4 + 4, rfl, hX, by omega⟩
    obtain ⟨r1, hr1, b, p1, lim, can, rfl, hpost⟩ := r_readLimits (L := L) (xs := xs) (c := c) (m := m) (o := o) (P := P) (u := u + 6 + 6 + 4 + 4) (fr := fun _ => 0) (ce := fun _ => 0) (s := 0) (dy := 0) hn (p + 1) (by omega)
    cV hr1
    have hle := rl_le c.tl c.ch 6 0 (p + 1) (fun _ => 0) (by omega)
    generalize rl c.tl c.ch 6 0 (p + 1) (fun _ => 0) = RL at hpost hle
    cases RL with
    | inl e =>
      obtain ⟨rfl, hb⟩ := hpost
      have hle' : p1 ≤ c.tl := hle
      rcases hb with rfl | ⟨rfl, hd⟩
      · refine w_if1 rfl (fun _ => ?_) (fun h5 => absurd rfl h5)
        exact w_lv (fl p1 (gC P.length lim _ _ _ _ can) (Nat.le_refl 4)) rfl trivial
      · refine w_if1 rfl (fun h5 => absurd h5 k_eq1) (fun _ => ?_)
        gg
        cV (r_passes0 (c := { c with pl := p1 }) hn (by show p1 ≤ 1000; omega) (Int8.ofInt 58).toInt32 (dg_ne hd (by decide)))
        refine w_if1 rfl (fun _ => ?_) (fun h5 => absurd rfl h5)
        exact w_lv (fl p1 (gC P.length lim _ _ _ _ can) (Nat.le_refl 4)) rfl trivial
    | inr ql =>
      obtain ⟨q, l⟩ := ql
      obtain ⟨rfl, rfl, hlim⟩ := hpost
      have hle' : p1 ≤ c.tl := hle
      refine w_if1 rfl (fun h5 => absurd h5 k_eq1) (fun _ => ?_)
      gg
      show ax_wp _ _ (QG L xs c m o P u (if nx c.tl c.ch p1 ≠ 58 then .inl p1 else _)) _ _ _ _
      by_cases h58 : nx c.tl c.ch p1 = 58
      · rw [if_neg (fun z => z h58)]
        have hlt2 := nx_lt h58 (by decide)
        cV (r_passes1 (c := { c with pl := p1 }) hn (by show p1 ≤ 1000; omega) (Int8.ofInt 58).toInt32 h58)
        refine w_if1 rfl (fun h5 => absurd h5 k_eq1) (fun _ => ?_)
        gg
        rw [hlim.can]
        obtain ⟨r2, hr2, b2, p2, fr', ce', s', can2, rfl, hpost2⟩ := r_readSteps (L := L) (xs := xs) (c := c) (m := m) (o := o) (P := P) (u := u + 6 + 6 + 4 + 4) (g0 := lok l 6) (lim := lim) (dy := 0) hn (p1 + 1) (by omega)
        cV hr2
        have hle2 := rs_le c.tl c.ch 101 0 (p1 + 1) (fun _ => 0) (fun _ => 0) (by omega)
        generalize rs c.tl c.ch 101 0 (p1 + 1) (fun _ => 0) (fun _ => 0) = RS at hpost2 hle2
        cases RS with
        | inl e =>
          obtain ⟨rfl, hb⟩ := hpost2
          have hle2' : p2 ≤ c.tl := hle2
          rcases hb with rfl | ⟨rfl, hd⟩
          · refine w_if1 rfl (fun _ => ?_) (fun h5 => absurd rfl h5)
            exact w_lv (fl p2 (gC P.length lim _ _ _ _ can2) (Nat.le_refl 4)) rfl trivial
          · refine w_if1 rfl (fun h5 => absurd h5 k_eq1) (fun _ => ?_)
            gg
            cV (r_passes0 (c := { c with pl := p2 }) hn (by show p2 ≤ 1000; omega) (Int8.ofInt 47).toInt32 (dg_ne hd (by decide)))
            refine w_if1 rfl (fun _ => ?_) (fun h5 => absurd rfl h5)
            exact w_lv (fl p2 (gC P.length lim _ _ _ _ can2) (Nat.le_refl 4)) rfl trivial
        | inr qs =>
          obtain ⟨q2, s, fr, ce⟩ := qs
          obtain ⟨rfl, rfl, hst⟩ := hpost2
          have hle2' : p2 ≤ c.tl := hle2
          refine w_if1 rfl (fun h5 => absurd h5 k_eq1) (fun _ => ?_)
          gg
          show ax_wp _ _ (QG L xs c m o P u (match rd c.tl c.ch p2 with | .inl e => .inl e | .inr (t, dy) => .inr (t, ⟨l, s, fr, ce, dy⟩))) _ _ _ _
          unfold rd
          by_cases h47 : nx c.tl c.ch p2 = 47
          · rw [if_neg (fun z => z h47)]
            have hlt3 := nx_lt h47 (by decide)
            cV (r_passes1 (c := { c with pl := p2 }) hn (by show p2 ≤ 1000; omega) (Int8.ofInt 47).toInt32 h47)
            refine w_if1 rfl (fun h5 => absurd h5 k_eq1) (fun _ => ?_)
            gg
            have hq3 : p2 + 1 ≤ c.tl := by omega
            generalize p2 + 1 = p3 at hq3
            have hw3 := wd_n (f := c.ch) hq3
            by_cases h0 : wd c.tl c.ch p3 = 0
            · rw [if_pos (fun z => z.1 h0), h0]
              cV (r_readDays0 (c := c) hn p3 hq3 h0)
              refine w_if1 rfl (fun _ => ?_) (fun h5 => absurd rfl h5)
              exact w_lv (fl p3 (gC P.length lim _ _ _ _ can2) (Nat.le_refl 4)) rfl trivial
            · rw [hst.can]
              obtain ⟨dy', can', hcan', hdy', hr3⟩ := r_readDays (L := L) (xs := xs) (c := c) (m := m) (o := o) (P := P) (u := u + 6 + 6 + 4 + 4) (lim := lim) (fr := fr') (ce := ce') (s := s') (g := stok (lok l 6) fr ce s) hn p3 hq3 h0
              cV hr3
              refine w_if1 rfl (fun h5 => absurd h5 k_eq1) (fun _ => ?_)
              gg
              by_cases hov : dg c.tl c.ch (p3 + wd c.tl c.ch p3)
              · rw [if_pos (fun z => z.2 hov)]
                cV (r_passes0 (c := { c with pl := p3 + wd c.tl c.ch p3 }) hn (by show p3 + wd c.tl c.ch p3 ≤ 1000; omega) (Int8.ofInt 59).toInt32 (dg_ne hov (by decide)))
                refine w_if1 rfl (fun _ => ?_) (fun h5 => absurd rfl h5)
                exact w_lv (fl _ (gC P.length lim _ _ _ _ can') (Nat.le_refl 4)) rfl trivial
              · rw [if_neg (fun z => z ⟨h0, hov⟩)]
                by_cases h59 : nx c.tl c.ch (p3 + wd c.tl c.ch p3) = 59
                · rw [if_neg (fun z => z h59)]
                  cV (r_passes1 (c := { c with pl := p3 + wd c.tl c.ch p3 }) hn (by show p3 + wd c.tl c.ch p3 ≤ 1000; omega) (Int8.ofInt 59).toInt32 h59)
                  refine w_if1 rfl (fun h5 => absurd h5 k_eq1) (fun _ => ?_)
                  gg
                  refine w_if1 rfl (fun h5 => absurd h5 k_eq1) (fun _ => ?_)
                  gg
                  refine w_aret rfl rfl rfl ⟨lim, fr', ce', s', dy', can', rfl, hcan', fun hg => ?_⟩
                  have h8 := hst.eq hg.1
                  exact ⟨fun j hj => hlim.eq hg.1.1 j hj, h8.1, fun j hj => (h8.2 j hj).1, fun j hj => (h8.2 j hj).2, hdy' hg⟩
                · rw [if_pos h59]
                  cV (r_passes0 (c := { c with pl := p3 + wd c.tl c.ch p3 }) hn (by show p3 + wd c.tl c.ch p3 ≤ 1000; omega) (Int8.ofInt 59).toInt32 h59)
                  refine w_if1 rfl (fun _ => ?_) (fun h5 => absurd rfl h5)
                  exact w_lv (fl _ (gC P.length lim _ _ _ _ can') (Nat.le_refl 4)) rfl trivial
          · rw [if_pos h47]
            cV (r_passes0 (c := { c with pl := p2 }) hn (by show p2 ≤ 1000; omega) (Int8.ofInt 47).toInt32 h47)
            refine w_if1 rfl (fun _ => ?_) (fun h5 => absurd rfl h5)
            exact w_lv (fl p2 (gC P.length lim _ _ _ _ can2) (Nat.le_refl 4)) rfl trivial
      · rw [if_pos h58]
        cV (r_passes0 (c := { c with pl := p1 }) hn (by show p1 ≤ 1000; omega) (Int8.ofInt 58).toInt32 h58)
        refine w_if1 rfl (fun _ => ?_) (fun h5 => absurd rfl h5)
        exact w_lv (fl p1 (gC P.length lim _ _ _ _ can) (Nat.le_refl 4)) rfl trivial
  · rw [if_pos h67]
    cV (r_passes0 (c := { c with pl := p }) hn (by show p ≤ 1000; omega) (Int8.ofInt 67).toInt32 h67)
    refine w_if1 rfl (fun h5 => absurd rfl h5) (fun _ => ?_)
    gg
    exact w_aret rfl rfl rfl ⟨[], u, by rw [List.append_nil], Nat.zero_le _, by omega⟩
end RGD
end
