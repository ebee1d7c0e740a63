/-! rows in which letters go down by their bits -/
/-- how many of the first x have the bit b -/
def ca (q : Nat → Bool) (P : List Nat) (b : Bool) (x : Nat) : Nat := (P.take x).countP (fun p => q p == b)
def dn (q : Nat → Bool) (P : List Nat) (b : Bool) (x : Nat) : Nat := if b then P.countP (fun p => !q p) + ca q P true x else ca q P false x
def srt (q : Nat → Bool) (P : List Nat) : List Nat := P.filter (fun p => !q p) ++ P.filter q
def rp (q : Nat → Nat → Bool) (n : Nat) : Nat → List Nat
  | 0 => List.range' 0 n
  | r + 1 => srt (q r) (rp q n r)
def Seg (P : List Nat) (x y : Nat) (S : List Nat) : Prop := ∃ X Y, P = X ++ (S ++ Y) ∧ X.length = x ∧ x + S.length = y
theorem ca_false (q : Nat → Bool) (P : List Nat) (x : Nat) : ca q P false x = ((P.take x).filter (fun p => !q p)).length := by
  unfold ca
  rw [← List.countP_eq_length_filter]
  exact List.countP_congr (fun p _ => by cases q p <;> simp)
theorem ca_true (q : Nat → Bool) (P : List Nat) (x : Nat) : ca q P true x = ((P.take x).filter q).length := by
  unfold ca
  rw [← List.countP_eq_length_filter]
  exact List.countP_congr (fun p _ => by cases q p <;> simp)
theorem seg_ca {P S : List Nat} {x y : Nat} (h : Seg P x y S) (q : Nat → Bool) (b : Bool) : ca q P b y = ca q P b x + (S.filter (fun p => q p == b)).length := by
  obtain ⟨X, Y, rfl, rfl, rfl⟩ := h
  unfold ca
  rw [List.take_left, ← List.append_assoc, ← List.length_append, List.take_left, List.countP_append, List.countP_eq_length_filter (l := S)]
theorem seg_next {P S : List Nat} {x y : Nat} (h : Seg P x y S) (q : Nat → Bool) (b : Bool) : Seg (srt q P) (dn q P b x) (dn q P b y) (S.filter (fun p => q p == b)) := by
  have h2 := seg_ca h q b
  obtain ⟨X, Y, rfl, rfl, rfl⟩ := h
  have hf : ∀ L : List Nat, L.filter (fun p => q p == false) = L.filter (fun p => !q p) := fun L => List.filter_congr (fun p _ => by cases q p <;> rfl)
  have ht : ∀ L : List Nat, L.filter (fun p => q p == true) = L.filter q := fun L => List.filter_congr (fun p _ => by cases q p <;> rfl)
  cases b
  · refine ⟨X.filter (fun p => !q p), Y.filter (fun p => !q p) ++ (X ++ (S ++ Y)).filter q, ?_, ?_, ?_⟩
    · unfold srt
      rw [hf, List.filter_append, List.filter_append, List.append_assoc, List.append_assoc]
    · show _ = ca q _ false _
      rw [ca_false, List.take_left]
    · show ca q _ false _ + _ = ca q _ false _
      rw [h2]
  · refine ⟨(X ++ (S ++ Y)).filter (fun p => !q p) ++ X.filter q, Y.filter q, ?_, ?_, ?_⟩
    · unfold srt
      rw [ht, List.filter_append (p := q), List.filter_append (p := q), List.append_assoc]
    · show _ = List.countP _ _ + ca q _ true _
      rw [ca_true, List.take_left, List.length_append, List.countP_eq_length_filter]
    · show List.countP _ _ + ca q _ true _ + _ = List.countP _ _ + ca q _ true _
      rw [h2]
      omega
theorem srt_perm (q : Nat → Bool) (P : List Nat) : (srt q P).Perm P := by
  unfold srt
  have h := List.filter_append_perm q P
  exact List.perm_append_comm.trans h
theorem rp_perm (q : Nat → Nat → Bool) (n r : Nat) : (rp q n r).Perm (List.range' 0 n) := by
  induction r with
  | zero => exact List.Perm.refl _
  | succ r ih => exact (srt_perm (q r) _).trans ih
theorem rp_len (q : Nat → Nat → Bool) (n r : Nat) : (rp q n r).length = n := by
  rw [(rp_perm q n r).length_eq, List.length_range']
theorem rp_lt {q : Nat → Nat → Bool} {n r p : Nat} (h : p ∈ rp q n r) : p < n := by
  have := (rp_perm q n r).mem_iff.mp h
  rw [List.mem_range'_1] at this
  omega
theorem rp_get {q : Nat → Nat → Bool} {n r k : Nat} (h : k < n) : ∃ p, (rp q n r)[k]? = some p ∧ p < n := by
  have hk : k < (rp q n r).length := by rw [rp_len]; exact h
  exact ⟨_, List.getElem?_eq_getElem hk, rp_lt (List.getElem_mem hk)⟩
theorem rp_nodup (q : Nat → Nat → Bool) (n r : Nat) : (rp q n r).Nodup := (rp_perm q n r).nodup_iff.mpr List.nodup_range'
theorem ca_le (q : Nat → Bool) (P : List Nat) (b : Bool) (x : Nat) : ca q P b x ≤ x := Nat.le_trans List.countP_le_length (by rw [List.length_take]; omega)
theorem ca_0 (q : Nat → Bool) (P : List Nat) (b : Bool) : ca q P b 0 = 0 := by simp [ca]
theorem ca_mono (q : Nat → Bool) (P : List Nat) (b : Bool) {x y : Nat} (h : x ≤ y) : ca q P b x ≤ ca q P b y := by
  unfold ca
  exact List.Sublist.countP_le (List.take_sublist_take_left h)
theorem ca_succ (q : Nat → Bool) (P : List Nat) (b : Bool) {x p : Nat} (h : P[x]? = some p) : ca q P b (x + 1) = ca q P b x + if q p == b then 1 else 0 := by
  unfold ca
  rw [List.take_add_one, h, List.countP_append]
  simp
theorem ca_two (q : Nat → Bool) (P : List Nat) {x : Nat} (h : x ≤ P.length) : ca q P false x + ca q P true x = x := by
  rw [ca_false, ca_true]
  have h2 := (List.filter_append_perm q (P.take x)).length_eq
  rw [List.length_append, List.length_take] at h2
  omega
theorem ca_all (q : Nat → Bool) (P : List Nat) (b : Bool) {x : Nat} (h : P.length ≤ x) : ca q P b x = P.countP (fun p => q p == b) := by
  unfold ca
  rw [List.take_of_length_le h]
theorem dn_le {q : Nat → Bool} {P : List Nat} {b : Bool} {x n : Nat} (hP : P.length = n) (hx : x ≤ n) : dn q P b x ≤ n := by
  have h1 := ca_two q P (x := P.length) (Nat.le_refl _)
  have hz : P.countP (fun p => !q p) = ca q P false P.length := by
    rw [ca_all _ _ _ (Nat.le_refl _)]
    exact List.countP_congr (fun p _ => by cases q p <;> simp)
  have hm := ca_mono q P true (x := x) (y := P.length) (by omega)
  have hm2 := ca_le q P false x
  unfold dn
  split
  · omega
  · omega
