/-! WHAT LIES OUTSIDE THE WORLD AND STAYS: the class's two tables, and words that no list of words carries -/
abbrev tyL (kA : Nat → ClassId) : List (ClassId × FieldType) := [(kA 0, .int), (kA 1, .object "BigDesk$Whole"), (kA 2, .long)]
def tn_ (i : Nat) : Int := [1, 10, 100, 1000, 10000, 100000].getD i 0
def fc_ (i : Nat) : Int := [8, 8, 5, 5, 5, 5, 5, 5].getD i 0
def st_T (n : String) (N : Nat) (g : Nat → Int) (A : Nat → Prop) (U : State) : Prop := ∃ t : Nat, va_Z "BigDesk" n "[I" (.ref t) A U U.heap ∧ va_T .int t N (fun j => .int (iI (g j))) A U U.heap
def st_S (A : Nat → Prop) (U : State) : Prop := st_T "TENS" 6 tn_ A U ∧ st_T "FACTORS_OF_BASE" 8 fc_ A U ∧ va_AO "BigDesk$Whole" U ∧ va_Nw (.fieldLinkNest "BigDesk$Whole" 93 "BigDesk" "TENS" "[I" "BigDesk") U ∧ va_Nw (.fieldLinkNest "BigDesk$Whole" 96 "BigDesk" "FACTORS_OF_BASE" "[I" "BigDesk") U
theorem st_T.moved {n : String} {N : Nat} {g : Nat → Int} {A : Nat → Prop} {u U : State} (hh : u.heap = U.heap) (hvm : u.vm.Alike U.vm) (h : st_T n N g A u) : st_T n N g A U := by
  obtain ⟨t, h1, h2⟩ := h
  exact ⟨t, by rw [← hh]; exact h1.moved hvm, by rw [← hh]; exact h2.moved hvm⟩
theorem st_T.call {n : String} {N : Nat} {g : Nat → Int} {A A1 : Nat → Prop} {s U : State} {H : Heap} {locs : List Loc} (h : st_T n N g A s) (hS : va_S A s.heap H locs) (hAB : ∀ q, A1 q → A q) (hU : U.heap = H) (hvm : s.vm.Alike U.vm) : st_T n N g A1 U := by
  obtain ⟨t, h1, h2⟩ := h
  refine ⟨t, ?_, ?_⟩
  · rw [hU]; exact ((h1.kept (fun a h3 h4 => hS.2.1 a h3 h4)).narrow hAB).moved hvm
  · rw [hU]; exact ((h2.kept (fun a h3 h4 => hS.2.1 a h3 h4)).narrow hAB).moved hvm
theorem st_S.blind (A : Nat → Prop) (u U : State) (hh : u.heap = U.heap) (hvm : u.vm.Alike U.vm) (hv2 : u.vm = U.vm) (h : st_S A u) : st_S A U := by
  obtain ⟨h1, h2, h3, h4⟩ := h
  exact ⟨h1.moved hh hvm, h2.moved hh hvm, h3.moved hvm, h4.1.same rfl hv2, h4.2.same rfl hv2⟩
theorem st_S.call {D : va_G} {cl : List vw_C} {A : Nat → Prop} {s : State} {H : Heap} {locs : List Loc} {f : mw_M} (h : st_S A s) (hI : mw_I D cl A s H locs f) (hA : ∀ q, s.heap.size ≤ q → A q) : ∀ U : State, U.heap = H → s.WarmedH U.vm → st_S (mw_A f H.size) U := by
  obtain ⟨h1, h2, h3, h4⟩ := h
  intro U hU hW
  exact ⟨h1.call hI.sub (hI.dom hA) hU hW.alike, h2.call hI.sub (hI.dom hA) hU hW.alike, h3.moved hW.alike, h4.1.warmF hW, h4.2.warmF hW⟩
