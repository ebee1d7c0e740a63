/-! an order, carried out -/
theorem come_f {L : TL} {w : Nat → Int32} {n : Nat} {a : Nat → Nat} {mk : Nat → Bool} (h : LW L w n a mk) {px vx : Int32} (hb : (px < 0 ∨ nI n < px) ∨ fS_isWeight vx = nI 0 ∨ n = 64) : ∃ t, fL_come L.1 L.2.1 L.2.2.2.1 px vx = some t ∧ t.1 = nI 0 := by
  have hn := h.1.1
  unfold fL_come
  rw [full_sp h, h.2.1]
  simp only [jl_]
  by_cases c1 : px < nI 0
  · rw [if_pos c1]
    exact ⟨_, rfl, rfl⟩
  rw [if_neg c1]
  by_cases c2 : nI n < px
  · rw [if_pos c2]
    exact ⟨_, rfl, rfl⟩
  rw [if_neg c2]
  by_cases c3 : fS_isWeight vx = nI 0
  · rw [if_pos c3]
    exact ⟨_, rfl, rfl⟩
  rw [if_neg c3]
  rcases hb with (hb | hb) | hb | hb
  · exact absurd hb c1
  · exact absurd hb c2
  · exact absurd hb c3
  · rw [decide_eq_true hb, bI_t, if_neg (by decide)]
    exact ⟨_, rfl, rfl⟩
theorem leave_f {w : Nat → Int32} {s l x : Int32} (h : fL_has s x = nI 0) : fL_leave w s l x = some (nI 0, w, s, l) := by
  unfold fL_leave
  simp only [jl_]
  rw [if_pos h]
theorem swap_f {w : Nat → Int32} {s l x : Int32} (h : fL_hasNext s x = nI 0) : fL_exchange w s l x = some (nI 0, w, l) := by
  unfold fL_exchange
  simp only [jl_]
  rw [if_pos h]
theorem swap_f2 {L : TL} {w : Nat → Int32} {n : Nat} {a : Nat → Nat} {mk : Nat → Bool} (h : LW L w n a mk) {k : Nat} (hk : k + 1 < n) (e : a k = a (k + 1)) (l : Int32) : fL_exchange L.1 L.2.1 l (nI k) = some (nI 0, L.1, l) := by
  have hn := h.1.1
  unfold fL_exchange fL_hasNext
  rw [h.2.1]
  simp (disch := omega) only [jl_, nI_add, pk_sub, jlt_f, jle_f, jeq_f]
  rw [at_sp (by omega), at_sp (by omega), h.2.2.1 k (by omega), h.2.2.1 (k + 1) (by omega)]
  simp only [obs]
  rw [if_pos (by rw [e])]
/-- what an order comes to, in both -/
def OB (L : TL) (w : Nat → Int32) (z : Int32) (x y : Nat) (g : Nat → Int32) (rn dn : Int32) : Prop :=
  (∃ t, fL_obey L.1 L.2.1 L.2.2.1 L.2.2.2.1 L.2.2.2.2.1 L.2.2.2.2.2 z (nI x) (nI y) = some t ∧ t.1 = nI 0 ∧ ∃ q rn' dn', fM_notNow rn dn w g z = some (q, rn', dn') ∧ q ≠ nI 0) ∨
  (∃ L' w' rn' dn', fL_obey L.1 L.2.1 L.2.2.1 L.2.2.2.1 L.2.2.2.2.1 L.2.2.2.2.2 z (nI x) (nI y) = some (nI 1, L'.1, L'.2.1, L'.2.2.1, L'.2.2.2.1, L'.2.2.2.2.1, L'.2.2.2.2.2) ∧ fM_notNow rn dn w g z = some (nI 0, rn', dn') ∧ fM_doesNow w g z = some w' ∧ LX L' w')
section O
variable {L : TL} {w : Nat → Int32} {n : Nat} {a : Nat → Nat} {mk : Nat → Bool} {x y : Nat} {g : Nat → Int32} {rn dn : Int32}
theorem ob_come (h : LW L w n a mk) {px vx : Int32} : (∃ t, fL_come L.1 L.2.1 L.2.2.2.1 px vx = some t ∧ t.1 = nI 0 ∧ ∃ q rn' dn', fM_notInsert rn dn w px vx = some (q, rn', dn') ∧ q ≠ nI 0) ∨
    (∃ W' s' c' w', fL_come L.1 L.2.1 L.2.2.2.1 px vx = some (nI 1, W', s', c') ∧ fM_notInsert rn dn w px vx = some (nI 0, rn, dn) ∧ fM_comes w px vx = some w' ∧ LX (W', s', L.2.2.1, c', L.2.2.2.2) w') := by
  rcases ins_cs (rn := rn) (dn := dn) h px vx with ⟨p, v, hp, hv, hlt, rfl, rfl, e2⟩ | ⟨e1, e2⟩ | ⟨p, hp, rfl, e3, e2⟩ | ⟨p, v, hp, hv, hlt, rfl, rfl, e2⟩
  · right
    obtain ⟨W', w', c1, c2, c3⟩ := h.come hp hv hlt
    exact ⟨W', _, _, w', c1, e2, c2, _, _, _, c3⟩
  · left
    obtain ⟨t, t1, t2⟩ := come_f h (px := px) (vx := vx) (Or.inl e1)
    exact ⟨t, t1, t2, _, _, _, e2, by decide⟩
  · left
    obtain ⟨t, t1, t2⟩ := come_f h (px := nI p) (vx := vx) (Or.inr (Or.inl e3))
    exact ⟨t, t1, t2, _, _, _, e2, by decide⟩
  · left
    obtain ⟨t, t1, t2⟩ := come_f h (px := nI p) (vx := nI v) (Or.inr (Or.inr hlt))
    exact ⟨t, t1, t2, _, _, _, e2, by decide⟩
theorem ob_p (h : LW L w n a mk) (g0 : g 0 = nI x) : OB L w (nI 112) x y g rn dn := by
  have hl : ldA g 2 (0 : Int32) = some (nI x) := by
    have := jld (f := g) (k := 0) (n := 2) (by omega) (by omega)
    rw [g0] at this
    exact this
  have hl2 : ldA w 132 (0 : Int32) = some (nI n) := by
    have := jld (f := w) (k := 0) (n := 132) (by omega) (by omega)
    rw [h.1.2.2.1] at this
    exact this
  unfold OB fL_obey fM_notNow fM_doesNow
  rw [hl, hl2]
  simp only [obs]
  rw [if_neg (by decide), if_neg (by decide), if_neg (by decide), if_neg (by decide), if_pos (by decide), if_neg (by decide), if_neg (by decide), if_pos (by decide), if_neg (by decide), if_neg (by decide), if_pos (by decide)]
  rcases ob_come (rn := rn) (dn := dn) h (px := nI n) (vx := nI x) with ⟨t, t1, t2, q, rn', dn', t3, t4⟩ | ⟨W', s', c', w', t1, t2, t3, t4⟩
  · left
    rw [← h.2.1] at t1
    rw [t1, t3]
    exact ⟨_, rfl, t2, q, rn', dn', rfl, t4⟩
  · right
    rw [← h.2.1] at t1
    rw [t1, t2, t3]
    exact ⟨(W', s', L.2.2.1, c', L.2.2.2.2), w', rn, dn, rfl, rfl, rfl, t4⟩
theorem ob_i (h : LW L w n a mk) (g0 : g 0 = nI x) (g1 : g 1 = nI y) : OB L w (nI 105) x y g rn dn := by
  have hl : ldA g 2 (0 : Int32) = some (nI x) := by
    have := jld (f := g) (k := 0) (n := 2) (by omega) (by omega)
    rw [g0] at this
    exact this
  have hl1 : ldA g 2 (1 : Int32) = some (nI y) := by
    have := jld (f := g) (k := 1) (n := 2) (by omega) (by omega)
    rw [g1] at this
    exact this
  unfold OB fL_obey fM_notNow fM_doesNow
  rw [hl, hl1]
  simp only [obs]
  rw [if_neg (by decide), if_pos (by decide), if_pos (by decide), if_pos (by decide)]
  rcases ob_come (rn := rn) (dn := dn) h (px := nI x) (vx := nI y) with ⟨t, t1, t2, q, rn', dn', t3, t4⟩ | ⟨W', s', c', w', t1, t2, t3, t4⟩
  · left
    rw [t1, t3]
    exact ⟨_, rfl, t2, q, rn', dn', rfl, t4⟩
  · right
    rw [t1, t2, t3]
    exact ⟨(W', s', L.2.2.1, c', L.2.2.2.2), w', rn, dn, rfl, rfl, rfl, t4⟩
theorem ob_o (h : LW L w n a mk) (g0 : g 0 = nI x) : OB L w (nI 111) x y g rn dn := by
  have hl : ldA g 2 (0 : Int32) = some (nI x) := by
    have := jld (f := g) (k := 0) (n := 2) (by omega) (by omega)
    rw [g0] at this
    exact this
  unfold OB fL_obey fM_notNow fM_doesNow
  rw [hl]
  simp only [obs]
  rw [if_neg (by decide), if_neg (by decide), if_neg (by decide), if_pos (by decide), if_neg (by decide), if_pos (by decide), if_neg (by decide), if_pos (by decide)]
  rcases letter_cs h (nI x) with ⟨k, hk, e0, e1, e2⟩ | ⟨e1, e2⟩
  · right
    rw [e0]
    rw [e0] at e2
    obtain ⟨W', w', c1, c2, c3⟩ := h.leave hk
    rw [c1, c2, e2]
    exact ⟨(W', nI (n - 1), L.2.2.1, L.2.2.2.1, L.2.2.2.2.1 + nI 1, L.2.2.2.2.2), w', rn, dn, rfl, rfl, rfl, _, _, _, c3⟩
  · left
    rw [leave_f e1, e2]
    exact ⟨_, rfl, rfl, -nI 11, rn, dn, rfl, by decide⟩
theorem ob_s (h : LW L w n a mk) (g0 : g 0 = nI x) : OB L w (nI 115) x y g rn dn := by
  have hl : ldA g 2 (0 : Int32) = some (nI x) := by
    have := jld (f := g) (k := 0) (n := 2) (by omega) (by omega)
    rw [g0] at this
    exact this
  unfold OB fL_obey fM_notNow fM_doesNow
  rw [hl]
  simp only [obs]
  rw [if_neg (by decide), if_neg (by decide), if_neg (by decide), if_neg (by decide), if_neg (by decide), if_pos (by decide), if_neg (by decide), if_neg (by decide), if_neg (by decide), if_pos (by decide), if_neg (by decide), if_neg (by decide), if_neg (by decide), if_pos (by decide)]
  rcases swap_cs (rn := rn) (dn := dn) h (nI x) with ⟨k, hk, e0, hne, e2⟩ | ⟨e1, e2⟩ | ⟨k, hk, e0, heq, e2⟩
  · right
    rw [e0]
    rw [e0] at e2
    obtain ⟨W', w', c1, c2, c3⟩ := h.swap hk hne
    rw [c1, c2, e2]
    exact ⟨(W', L.2.1, L.2.2.1, L.2.2.2.1, L.2.2.2.2.1, L.2.2.2.2.2 + nI 1), w', rn, dn, rfl, rfl, rfl, _, _, _, c3⟩
  · left
    rw [swap_f e1, e2]
    exact ⟨_, rfl, rfl, -nI 11, rn, dn, rfl, by decide⟩
  · left
    rw [e0]
    rw [e0] at e2
    rw [swap_f2 h hk heq, e2]
    exact ⟨_, rfl, rfl, -nI 14, _, _, rfl, by decide⟩
theorem ob_mc (h : LW L w n a mk) (b : Bool) : (∃ t, fL_setMark L.2.2.1 (nI x) (bI b) = some t ∧ t.1 = nI 0 ∧ ∃ q rn' dn', fM_notMark rn dn w (nI x) (bI b) = some (q, rn', dn') ∧ q ≠ nI 0) ∨
    (∃ M' w' t, fL_setMark L.2.2.1 (nI x) (bI b) = some (nI 1, M') ∧ fM_notMark rn dn w (nI x) (bI b) = some (nI 0, rn, dn) ∧ fM_marks w (nI x) (bI b) = some (t, w') ∧ LX (L.1, L.2.1, M', L.2.2.2) w') := by
  rcases mark_cs (rn := rn) (dn := dn) h (nI x) b with ⟨k, hk1, hk2, e0, hne, e2⟩ | ⟨e1, e2⟩ | ⟨k, hk1, hk2, e0, heq, e2⟩
  · right
    rw [e0]
    rw [e0] at e2
    obtain ⟨w', c1, c2, c3⟩ := h.mark hk1 hk2 hne
    exact ⟨_, w', _, c1, e2, c2, _, _, _, c3⟩
  · left
    exact ⟨_, setMark_n e1, rfl, _, _, _, e2, by decide⟩
  · left
    rw [e0]
    rw [e0] at e2
    exact ⟨_, setMark_f h.2.2.2.1 hk1 hk2 b heq, rfl, _, _, _, e2, by decide⟩
theorem ob_m (h : LW L w n a mk) (g0 : g 0 = nI x) : OB L w (nI 109) x y g rn dn := by
  have hl : ldA g 2 (0 : Int32) = some (nI x) := by
    have := jld (f := g) (k := 0) (n := 2) (by omega) (by omega)
    rw [g0] at this
    exact this
  unfold OB fL_obey fM_notNow fM_doesNow
  rw [hl]
  simp only [obs]
  rw [if_neg (by decide), if_neg (by decide), if_pos (by decide), if_neg (by decide), if_neg (by decide), if_neg (by decide), if_neg (by decide), if_pos (by decide), if_neg (by decide), if_neg (by decide), if_neg (by decide), if_neg (by decide), if_pos (by decide)]
  simp only [jl_]
  rcases ob_mc (rn := rn) (dn := dn) (x := x) h true with ⟨t, t1, t2, q, rn', dn', t3, t4⟩ | ⟨M', w', t, t1, t2, t3, t4⟩
  · left
    rw [bI_t] at t1 t3
    rw [t1, t3]
    exact ⟨_, rfl, t2, q, rn', dn', rfl, t4⟩
  · right
    rw [bI_t] at t1 t2 t3
    rw [t1, t2, t3]
    exact ⟨(L.1, L.2.1, M', L.2.2.2), w', rn, dn, rfl, rfl, rfl, t4⟩
theorem ob_c (h : LW L w n a mk) (g0 : g 0 = nI x) : OB L w (nI 99) x y g rn dn := by
  have hl : ldA g 2 (0 : Int32) = some (nI x) := by
    have := jld (f := g) (k := 0) (n := 2) (by omega) (by omega)
    rw [g0] at this
    exact this
  unfold OB fL_obey fM_notNow fM_doesNow
  rw [hl]
  simp only [obs]
  rw [if_pos (by decide), if_neg (by decide), if_neg (by decide), if_neg (by decide), if_neg (by decide), if_neg (by decide), if_neg (by decide), if_neg (by decide), if_neg (by decide), if_neg (by decide), if_neg (by decide)]
  simp only [jl_]
  rcases ob_mc (rn := rn) (dn := dn) (x := x) h false with ⟨t, t1, t2, q, rn', dn', t3, t4⟩ | ⟨M', w', t, t1, t2, t3, t4⟩
  · left
    rw [bI_f] at t1 t3
    rw [t1, t3]
    exact ⟨_, rfl, t2, q, rn', dn', rfl, t4⟩
  · right
    rw [bI_f] at t1 t2 t3
    rw [t1, t2, t3]
    exact ⟨(L.1, L.2.1, M', L.2.2.2), w', rn, dn, rfl, rfl, rfl, t4⟩
theorem ob_all (h : LX L w) {z : Int32} (hz : K6 z) (g0 : g 0 = nI x) (g1 : z = nI 105 → g 1 = nI y) : OB L w z x y g rn dn := by
  obtain ⟨n, a, mk, h⟩ := h
  rcases hz with rfl | rfl | rfl | rfl | rfl | rfl
  · exact ob_c h g0
  · exact ob_i h g0 (g1 rfl)
  · exact ob_m h g0
  · exact ob_o h g0
  · exact ob_p h g0
  · exact ob_s h g0
end O
/-! the whole text -/
def Chain (c c2 : Nat → Int32) (len : Nat) : List (Int32 × Nat × Nat) → Nat → Prop
  | [], _ => False
  | o :: t, k => o.1 = ch c len k ∧ ∃ k', OC c c2 len k true k' o.2.1 o.2.2 ∧ ((t = [] ∧ k' = len) ∨ (ch c len k' = nI 59 ∧ Chain c c2 len t (k' + 1)))
section T
variable {c c2 : Nat → Int32} {len : Nat}
theorem read_ex (h : TXr c c2 len) : ∀ d k j, len < k + d → k ≤ len → 6 * j ≤ k → ∃ (good : Bool) (ps : Nat) (Os : List (Int32 × Nat × Nat)), (good = true → Chain c c2 len Os k) ∧ ps < 1000 ∧ j + Os.length ≤ 10 ∧
    (∀ (K F S : Nat → Int32) (l : Int32) (m : Nat), d < m → ∃ K' F' S' o' cu l', fT_read_12 m c (nI len) K F S (nI j) (nI k) l (nI j) = some (if good = true then -nI 1 else nI ps, K', F', S', o', cu, l') ∧ (∀ i, i < j → K' i = K i ∧ F' i = F i ∧ S' i = S i) ∧ (good = true → o' = nI (j + Os.length) ∧ ∀ i o, Os[i]? = some o → K' (j + i) = o.1 ∧ F' (j + i) = nI o.2.1 ∧ S' (j + i) = nI o.2.2)) ∧
    (∀ (g : Nat → Int32) (s : Int32) (m : Nat), d + 1 < m → ∃ nx g' s', fM_readsAll_7 m c2 (nI len) (nI k) g s (nI 1) = some (bI good, nx, g', s') ∧ (good = false → nx = nI ps)) := by
  have hl := h.1
  intro d
  induction d with
  | zero => intro k j h1 h2 h3; omega
  | succ d ih =>
    intro k j h1 h2 h3
    obtain ⟨ok, k', x, y, o1, o2, o3, o4, o5⟩ := order_ex h h2
    cases ok with
    | false =>
      refine ⟨false, k', [], (fun e => by cases e), by omega, by simp; omega, fun K F S l m hm => ?_, fun g s m hm => ?_⟩
      · obtain ⟨m, rfl⟩ : ∃ q, m = q + 1 := ⟨m - 1, by omega⟩
        obtain ⟨l', e⟩ := o1 K F S j l (fun e => by cases e)
        refine ⟨K, F, S, nI j, nI k', l', ?_, fun i _ => ⟨rfl, rfl, rfl⟩, fun e => by cases e⟩
        rw [fT_read_12, e]
        simp (disch := omega) only [jl_, jlt_f, obs]
        rfl
      · obtain ⟨m, rfl⟩ : ∃ q, m = q + 1 := ⟨m - 1, by omega⟩
        obtain ⟨g', e, -⟩ := o2 g s
        refine ⟨nI k', g', ch c len k, ?_, fun _ => rfl⟩
        rw [fM_readsAll_7, e]
        simp only [jl_, obs]
        rw [if_neg (by decide), bI_f, if_pos (by trivial)]
    | true =>
      obtain ⟨q1, q2, q3, q4⟩ := o5 rfl
      have hj : j < 10 := by omega
      by_cases c1 : k' = len
      · refine ⟨true, 0, [(ch c len k, x, y)], (fun _ => ⟨rfl, k', ⟨o1, o2, o3, o4, o5⟩, Or.inl ⟨rfl, c1⟩⟩), by omega, by simp; omega, fun K F S l m hm => ?_, fun g s m hm => ?_⟩
        · obtain ⟨m, rfl⟩ : ∃ q, m = q + 1 := ⟨m - 1, by omega⟩
          obtain ⟨l', e⟩ := o1 K F S j l (fun _ => hj)
          refine ⟨up K j (ch c len k), up F j (nI x), up S j (nI y), nI (j + 1), nI k', l', ?_, fun i hi => ⟨up_ne (by omega), up_ne (by omega), up_ne (by omega)⟩, fun _ => ⟨rfl, fun i o ho => ?_⟩⟩
          · rw [fT_read_12, e]
            simp (disch := omega) only [jl_, jlt_f, obs, if_true]
            rw [if_neg (by decide), jeq_t c1]
          · cases i with
            | zero =>
              rw [List.getElem?_cons_zero] at ho
              cases ho
              exact ⟨up_eq (by omega), up_eq (by omega), up_eq (by omega)⟩
            | succ i => simp at ho
        · obtain ⟨m, rfl⟩ : ∃ q, m = q + 1 := ⟨m - 1, by omega⟩
          obtain ⟨m, rfl⟩ : ∃ q, m = q + 1 := ⟨m - 1, by omega⟩
          obtain ⟨g', e, -⟩ := o2 g s
          have hne : ch c len k' ≠ nI 59 := fun z => by
            have := ch_lt z (by omega)
            omega
          refine ⟨nI k', g', ch c len k, ?_, fun e => by cases e⟩
          rw [fM_readsAll_7, e]
          simp only [jl_, obs]
          rw [if_neg (by decide), bI_t, if_neg (by decide), rd_f h (by omega) hne]
          simp only [obs]
          rw [fM_readsAll_7, if_pos (by decide), jeq_t c1]
          rfl
      · by_cases c3 : ch c len k' = nI 59
        · have hlt := ch_lt c3 (by omega)
          obtain ⟨good, ps, Os, r1, r2, r3, r4, r5⟩ := ih (k' + 1) (j + 1) (by omega) (by omega) (by omega)
          refine ⟨good, ps, (ch c len k, x, y) :: Os, (fun e => ⟨rfl, k', ⟨o1, o2, o3, o4, o5⟩, Or.inr ⟨c3, r1 e⟩⟩), r2, by simp; omega, fun K F S l m hm => ?_, fun g s m hm => ?_⟩
          · obtain ⟨m, rfl⟩ : ∃ q, m = q + 1 := ⟨m - 1, by omega⟩
            obtain ⟨l', e⟩ := o1 K F S j l (fun _ => hj)
            obtain ⟨K', F', S', o', cu, l2, f1, f2, f3⟩ := r4 (up K j (ch c len k)) (up F j (nI x)) (up S j (nI y)) l' m (by omega)
            refine ⟨K', F', S', o', cu, l2, ?_, fun i hi => ?_, fun eg => ⟨?_, fun i o ho => ?_⟩⟩
            · rw [fT_read_12, e]
              simp (disch := omega) only [jl_, jlt_f, obs, if_true]
              rw [if_neg (by decide), jeq_f c1 (by omega) (by omega), rs_t h (by omega) c3]
              simp only [obs]
              rw [if_neg (by decide), nI_add]
              exact f1
            · obtain ⟨z1, z2, z3⟩ := f2 i (by omega)
              rw [z1, z2, z3]
              exact ⟨up_ne (by omega), up_ne (by omega), up_ne (by omega)⟩
            · rw [(f3 eg).1, List.length_cons]
              exact congrArg nI (by omega)
            · cases i with
              | zero =>
                rw [List.getElem?_cons_zero] at ho
                cases ho
                obtain ⟨z1, z2, z3⟩ := f2 j (by omega)
                rw [Nat.add_zero, z1, z2, z3]
                exact ⟨up_eq rfl, up_eq rfl, up_eq rfl⟩
              | succ i =>
                rw [List.getElem?_cons_succ] at ho
                have := (f3 eg).2 i o ho
                rw [show j + 1 + i = j + (i + 1) by omega] at this
                exact this
          · obtain ⟨m, rfl⟩ : ∃ q, m = q + 1 := ⟨m - 1, by omega⟩
            obtain ⟨g', e, -⟩ := o2 g s
            obtain ⟨nx, g2, s2, f1, f2⟩ := r5 g' (ch c len k) m (by omega)
            refine ⟨nx, g2, s2, ?_, f2⟩
            rw [fM_readsAll_7, e]
            simp only [jl_, obs]
            rw [if_neg (by decide), bI_t, if_neg (by decide), rd_t h (by omega) c3]
            simp only [obs]
            exact f1
        · refine ⟨false, k', [], (fun e => by cases e), by omega, by simp; omega, fun K F S l m hm => ?_, fun g s m hm => ?_⟩
          · obtain ⟨m, rfl⟩ : ∃ q, m = q + 1 := ⟨m - 1, by omega⟩
            obtain ⟨l', e⟩ := o1 K F S j l (fun _ => hj)
            refine ⟨up K j (ch c len k), up F j (nI x), up S j (nI y), nI (j + 1), nI k', l', ?_, fun i hi => ⟨up_ne (by omega), up_ne (by omega), up_ne (by omega)⟩, fun e => by cases e⟩
            rw [fT_read_12, e]
            simp (disch := omega) only [jl_, jlt_f, obs, if_true]
            rw [if_neg (by decide), jeq_f c1 (by omega) (by omega), rs_f h (by omega) c3]
            simp only [obs]
            rw [if_pos (by trivial)]
            rfl
          · obtain ⟨m, rfl⟩ : ∃ q, m = q + 1 := ⟨m - 1, by omega⟩
            obtain ⟨m, rfl⟩ : ∃ q, m = q + 1 := ⟨m - 1, by omega⟩
            obtain ⟨g', e, -⟩ := o2 g s
            refine ⟨nI k', g', ch c len k, ?_, fun _ => rfl⟩
            rw [fM_readsAll_7, e]
            simp only [jl_, obs]
            rw [if_neg (by decide), bI_t, if_neg (by decide), rd_f h (by omega) c3]
            simp only [obs]
            rw [fM_readsAll_7, if_pos (by decide), jeq_f c1 (by omega) (by omega)]
            rfl
theorem kind_sp {K : Nat → Int32} {o j : Nat} (h : j < o) (ho : o ≤ 10) : fT_kindOf K (nI o) (nI j) = some (K j) := by
  unfold fT_kindOf
  simp (disch := omega) only [jl_, nI_add, pk_sub, pk_mul, j_neg, jlt_t, jlt_f, jle_t, jle_f, jeq_t, jeq_f, jld, jst, obs, j_div, ↓reduceIte, if_true, if_false, Nat.add_zero, Nat.sub_zero, Nat.add_sub_cancel_left]
theorem first_sp {K : Nat → Int32} {o j : Nat} (h : j < o) (ho : o ≤ 10) : fT_firstOf K (nI o) (nI j) = some (K j) := by
  unfold fT_firstOf
  simp (disch := omega) only [jl_, nI_add, pk_sub, pk_mul, j_neg, jlt_t, jlt_f, jle_t, jle_f, jeq_t, jeq_f, jld, jst, obs, j_div, ↓reduceIte, if_true, if_false, Nat.add_zero, Nat.sub_zero, Nat.add_sub_cancel_left]
theorem second_sp {K : Nat → Int32} {o j : Nat} (h : j < o) (ho : o ≤ 10) : fT_secondOf K (nI o) (nI j) = some (K j) := by
  unfold fT_secondOf
  simp (disch := omega) only [jl_, nI_add, pk_sub, pk_mul, j_neg, jlt_t, jlt_f, jle_t, jle_f, jeq_t, jeq_f, jld, jst, obs, j_div, ↓reduceIte, if_true, if_false, Nat.add_zero, Nat.sub_zero, Nat.add_sub_cancel_left]
theorem try_both (h : TXr c c2 len) (L : TL) (T : TT) : ∀ (Os : List (Int32 × Nat × Nat)) (k j : Nat) (tr : TL) (w : Nat → Int32) (rn dn : Int32) (g : Nat → Int32) (s : Int32) (m m' : Nat), Chain c c2 len Os k → LX tr w → k ≤ len → T.2.2.2.2.2.1 = nI (j + Os.length) → j + Os.length ≤ 10 → (∀ i o, Os[i]? = some o → T.2.2.1 (j + i) = o.1 ∧ T.2.2.2.1 (j + i) = nI o.2.1 ∧ T.2.2.2.2.1 (j + i) = nI o.2.2) → Os.length < m → Os.length < m' →
    ∃ r tr' b rn' dn' w' nx g' s' dd, fS_tryOrders_13 m L tr T (nI j) = some (r, tr') ∧ fM_doesAll_12 m' rn dn w c2 (nI len) (nI k) g s (nI j) (nI 1) = some (bI b, rn', dn', w', nx, g', s', dd) ∧ ((b = true ∧ r = -nI 1 ∧ LX tr' w' ∧ dd = T.2.2.2.2.2.1) ∨ (b = false ∧ ∃ i, i < 100 ∧ r = nI i ∧ dd = nI i)) := by
  have hl := h.1
  intro Os
  induction Os with
  | nil => intro k j tr w rn dn g s m m' hc; exact hc.elim
  | cons o t ih =>
    intro k j tr w rn dn g s m m' hc hL hk hT ht hO hm hm'
    obtain ⟨e0, k', ⟨o1, o2, o3, o4, o5⟩, hnext⟩ := hc
    obtain ⟨q1, q2, q3, q4⟩ := o5 rfl
    obtain ⟨t1, t2, t3⟩ := hO 0 o (by simp)
    rw [Nat.add_zero] at t1 t2 t3
    rw [List.length_cons] at hT ht hm hm'
    obtain ⟨m, rfl⟩ : ∃ q, m = q + 1 := ⟨m - 1, by omega⟩
    obtain ⟨m', rfl⟩ : ∃ q, m' = q + 1 := ⟨m' - 1, by omega⟩
    obtain ⟨g1, e1, e2⟩ := o2 g s
    obtain ⟨e3, e4⟩ := e2 rfl
    have hcls : fS_tryOrders_13 (m + 1) L tr T (nI j) = Option.bind (fL_obey tr.1 tr.2.1 tr.2.2.1 tr.2.2.2.1 tr.2.2.2.2.1 tr.2.2.2.2.2 (ch c len k) (nI o.2.1) (nI o.2.2)) fun t6 => if t6.1 = 0 then (some (nI j, (t6.2.1, t6.2.2.1, t6.2.2.2.1, t6.2.2.2.2.1, t6.2.2.2.2.2.1, t6.2.2.2.2.2.2))) else (fS_tryOrders_13 m L (t6.2.1, t6.2.2.1, t6.2.2.2.1, t6.2.2.2.2.1, t6.2.2.2.2.2.1, t6.2.2.2.2.2.2) T (nI (j + 1))) := by
      rw [fS_tryOrders_13, hT, kind_sp (by omega) ht, first_sp (by omega) ht, second_sp (by omega) ht, t1, t2, t3, e0]
      unfold fT_orders
      rw [jle_f (by omega) (by omega)]
      simp only [obs, jl_, nI_add]
    rcases ob_all (x := o.2.1) (y := o.2.2) (g := g1) (rn := rn) (dn := dn) hL q2 e3 e4 with ⟨t6, b1, b2, q, rn', dn', b3, b4⟩ | ⟨L', w', rn', dn', b1, b2, b3, b4⟩
    · refine ⟨nI j, (t6.2.1, t6.2.2.1, t6.2.2.2.1, t6.2.2.2.2.1, t6.2.2.2.2.2.1, t6.2.2.2.2.2.2), false, rn', dn', w, nI k', g1, ch c len k, nI j, ?_, ?_, Or.inr ⟨rfl, j, by omega, rfl, rfl⟩⟩
      · rw [hcls, b1, obs, if_pos (show t6.1 = 0 from b2)]
      · rw [fM_doesAll_12, e1]
        simp only [jl_, obs]
        rw [if_neg (by decide), b3]
        simp only [obs]
        rw [if_neg b4]
        rfl
    · have hcl2 : fS_tryOrders_13 (m + 1) L tr T (nI j) = fS_tryOrders_13 m L L' T (nI (j + 1)) := by
        rw [hcls, b1, obs, if_neg (by show ¬ nI 1 = 0; decide)]
      rcases hnext with ⟨rfl, rfl⟩ | ⟨c3, hc'⟩
      · have hne : ch c k' k' ≠ nI 59 := fun z => by
          have := ch_lt z (by omega)
          omega
        rw [List.length_nil] at hm hm'
        obtain ⟨m, rfl⟩ : ∃ q, m = q + 1 := ⟨m - 1, by omega⟩
        obtain ⟨m', rfl⟩ : ∃ q, m' = q + 1 := ⟨m' - 1, by omega⟩
        refine ⟨-nI 1, L', true, rn', dn', w', nI k', g1, ch c k' k, nI (j + 1), ?_, ?_, Or.inl ⟨rfl, rfl, b4, ?_⟩⟩
        · rw [hcl2, fS_tryOrders_13, hT]
          unfold fT_orders
          rw [List.length_nil, jle_t (by omega) (by omega)]
          rfl
        · rw [fM_doesAll_12, e1]
          simp only [jl_, obs]
          rw [if_neg (by decide), b2]
          simp only [obs]
          rw [if_pos (by trivial), b3, rd_f h (by omega) hne]
          simp only [obs, nI_add]
          rw [fM_doesAll_12, if_pos (by decide)]
          rfl
        · rw [hT]
          rfl
      · have hlt := ch_lt c3 (by omega)
        obtain ⟨r, tr', b, rn2, dn2, w2, nx, g2, s2, dd, f1, f2, f3⟩ := ih (k' + 1) (j + 1) L' w' rn' dn' g1 (ch c len k) m m' hc' b4 (by omega) (by rw [hT]; exact congrArg nI (by omega)) (by omega) (fun i o' ho => by
          have := hO (i + 1) o' (by rw [List.getElem?_cons_succ]; exact ho)
          rw [show j + (i + 1) = j + 1 + i by omega] at this
          exact this) (by omega) (by omega)
        refine ⟨r, tr', b, rn2, dn2, w2, nx, g2, s2, dd, ?_, ?_, f3⟩
        · rw [hcl2]
          exact f1
        · rw [fM_doesAll_12, e1]
          simp only [jl_, obs]
          rw [if_neg (by decide), b2]
          simp only [obs]
          rw [if_pos (by trivial), b3, rd_t h (by omega) c3]
          simp only [obs, nI_add]
          exact f2
end T
section S
variable {L tr : TL} {w : Nat → Int32} {R : TR} {B : TB} {P : TP} {u mind : Nat → Int32} {chg fi lr ld rn dn : Int32} {T : TT} {c2 g : Nat → Int32} {len : Nat} {nx so dn2 : Int32}
theorem n1000 : ∀ ps, ps < 1000 → -nI 1000 - nI ps < nI 0 := by decide +kernel
theorem st_run (h : ST L w R B) (hP : PA P u chg fi) (hx : TXr T.1 c2 len) (hs : T.2.1 = nI len) : ∃ r L' tr' P' R' B' T' lr' ld' rn' dn' w' u' mind' chg' fi' nx' g' so' d', fS_run L tr P R B T lr ld = some (r, L', tr', P', R', B', T', lr', ld') ∧ fM_run lr ld rn dn w u mind chg fi c2 (nI len) nx g so dn2 = some (r, lr', ld', rn', dn', w', u', mind', chg', fi', nI 0, nx', g', so', d') ∧ ST L' w' R' B' ∧ PA P' u' chg' fi' ∧ T'.2.1 = nI 0 ∧ CH r w u chg fi w' u' chg' fi' := by
  have hl := hx.1
  have hLX : LX L w := by
    obtain ⟨n, a, mk, h, -⟩ := h
    exact ⟨n, a, mk, h⟩
  obtain ⟨good, ps, Os, r1, r2, r3, r4, r5⟩ := read_ex hx (len + 1) 0 0 (by omega) (by omega) (by omega)
  obtain ⟨K', F', S', o', cu, l', f1, -, f3⟩ := r4 T.2.2.1 T.2.2.2.1 T.2.2.2.2.1 T.2.2.2.2.2.2.2 FU (fu_lt (by omega))
  obtain ⟨nx1, g1, s1, f4, f5⟩ := r5 g so FU (by unfold FU; omega)
  have e1 : fT_read T.1 T.2.1 T.2.2.1 T.2.2.2.1 T.2.2.2.2.1 T.2.2.2.2.2.1 T.2.2.2.2.2.2.1 T.2.2.2.2.2.2.2 = some (if good = true then -nI 1 else nI ps, K', F', S', o', cu, l') := by
    unfold fT_read
    rw [hs]
    simp only [jl_]
    exact f1
  have e2 : fM_readsAll c2 (nI len) nx g so = some (bI good, nx1, g1, s1) := by
    unfold fM_readsAll
    simp only [jl_]
    exact f4
  unfold fS_run fM_run fT_empty
  cases good with
  | false =>
    have e1 : fT_read T.1 T.2.1 T.2.2.1 T.2.2.2.1 T.2.2.2.2.1 T.2.2.2.2.2.1 T.2.2.2.2.2.2.1 T.2.2.2.2.2.2.2 = some (nI ps, K', F', S', o', cu, l') := e1
    rw [e1, e2]
    simp only [obs]
    refine ⟨-nI 1000 - nI ps, L, tr, P, R, B, (T.1, nI 0, K', F', S', o', cu, l'), lr, ld, rn, dn, w, u, mind, chg, fi, nx1, g1, s1, dn2, ?_, ?_, h, hP, rfl, CH.r (n1000 ps r2)⟩
    · rw [if_neg (nI_pos (by omega))]
      rfl
    · rw [if_pos (by decide), f5 rfl]
      rfl
  | true =>
    have e1 : fT_read T.1 T.2.1 T.2.2.1 T.2.2.2.1 T.2.2.2.2.1 T.2.2.2.2.2.1 T.2.2.2.2.2.2.1 T.2.2.2.2.2.2.2 = some (-nI 1, K', F', S', o', cu, l') := e1
    rw [e1, e2]
    simp only [obs]
    obtain ⟨f6, f7⟩ := f3 rfl
    rw [Nat.zero_add] at f6
    obtain ⟨m1, m2, m3⟩ := thinks_sp w mind
    obtain ⟨n, a, mk, hL⟩ := hLX
    obtain ⟨W', b1, b2⟩ := hL.like tr
    obtain ⟨r, tr', b, rn', dn', w', nx2, g2, s2, dd, d1, d2, d3⟩ := try_both hx L (T.1, (0 : Int32), K', F', S', o', cu, l') Os 0 0 (W', L.2) w rn dn g1 s1 FU FU (r1 rfl) ⟨n, a, mk, b2⟩ (by omega) (by rw [Nat.zero_add]; exact f6) r3 f7 (by unfold FU; omega) (by unfold FU; omega)
    have e3 : fS_tryOrders L tr (T.1, (0 : Int32), K', F', S', o', cu, l') = some (r, tr') := by
      unfold fS_tryOrders
      rw [b1]
      simp only [obs, jl_]
      exact d1
    have e4 : fM_doesAll rn dn w c2 (nI len) nx1 g1 s1 dn2 = some (bI b, rn', dn', w', nx2, g2, s2, dd) := by
      unfold fM_doesAll
      simp only [jl_]
      exact d2
    rw [if_pos (show -nI 1 < (0 : Int32) from jng (b := 1) (by omega) (by omega)), if_neg (show ¬ bI true = 0 by decide), e3, m2]
    simp only [obs]
    rw [e4]
    simp only [obs]
    rcases d3 with ⟨rfl, rfl, d4, d5⟩ | ⟨rfl, i, hi, rfl, rfl⟩
    · obtain ⟨kp, f, s, u', chg', fi', k1, k2, k3⟩ := keep_both (w := m1) hP ⟨n, a, mk, hL.cong m3⟩
      obtain ⟨n2, a2, mk2, d4⟩ := d4
      obtain ⟨W2, c1, c3⟩ := d4.like L
      obtain ⟨R', B', g3, g4⟩ := follow_sp ⟨n2, a2, mk2, c3⟩ R B
      refine ⟨o', (W2, tr'.2), tr', (kp, f, s), R', B', (T.1, (0 : Int32), K', F', S', o', cu, l'), lr, ld, rn', dn', w', u', m1, chg', fi', nx2, g2, s2, dd, ?_, ?_, g4, k3, rfl, Or.inr ⟨by rw [f6]; exact nI_pos (by omega), m1, m3, k2⟩⟩
      · rw [if_pos (show -nI 1 < (0 : Int32) from jng (b := 1) (by omega) (by omega)), k1, c1]
        simp only [obs]
        have g5 : fS_follow (W2, tr'.2.1, tr'.2.2.1, tr'.2.2.2.1, tr'.2.2.2.2.1, tr'.2.2.2.2.2) R B = some (R', B') := g3
        rw [g5]
        rfl
      · rw [if_neg (show ¬ bI true = 0 by decide), k2, d5]
        rfl
    · obtain ⟨w2, c1, c3⟩ := forgets_sp m1 w'
      refine ⟨-nI 14, L, tr', P, R, B, (T.1, (0 : Int32), K', F', S', o', cu, l'), nI 4, nI i, rn', dn', w2, u, m1, chg, fi, nx2, g2, s2, nI i, ?_, ?_, ?_, hP, rfl, Or.inl ⟨by decide, fun k hk => by rw [c3 k hk, m3 k hk], rfl, rfl, rfl⟩⟩
      · rw [if_neg (nI_pos (by omega))]
        rfl
      · rw [if_pos (show bI false = 0 by decide), c1]
        rfl
      · obtain ⟨n, a, mk, h1, h2, h3⟩ := h
        exact ⟨n, a, mk, h1.cong (fun k hk => by rw [c3 k hk, m3 k hk]), h2, h3⟩
theorem st_append {T : TT} {c2 : Nat → Int32} {len : Nat} (hx : TXr T.1 c2 len) (hs : T.2.1 = nI len) (x : Int32) : ∃ r T' c2' len', fS_append T x = some (r, T') ∧ fM_append c2 (nI len) x = some (r, c2', nI len') ∧ TXr T'.1 c2' len' ∧ T'.2.1 = nI len' := by
  have hl := hx.1
  unfold fS_append fM_append fT_isFull fT_add fT_size
  rw [hs]
  simp only [jl_]
  rcases j_cases x with hx0 | ⟨k, hk, rfl⟩
  · refine ⟨-nI 12, T, c2, len, ?_, ?_, hx, hs⟩
    · rw [if_pos (jnn_lt hx0 (by omega))]
    · unfold fM_isBetween
      rw [if_pos (jnn_lt hx0 (by omega))]
      rfl
  · rw [isB_sp k 32 126 hk (by omega) (by omega)]
    by_cases c : 32 ≤ k ∧ k ≤ 126
    · rw [decide_eq_true c, bI_t, jlt_f (by omega) (by omega), jle_t (by omega) (by omega), if_neg (show ¬ nI 1 = nI 0 by decide)]
      by_cases c6 : len = 60
      · refine ⟨-nI 13, T, c2, len, ?_, ?_, hx, hs⟩
        · rw [jlt_f (by omega) (by omega), if_neg (show ¬ nI 1 = nI 0 by decide)]
        · rw [jeq_t c6]
      · refine ⟨nI (len + 1), (up T.1 len (nI k), nI (len + 1), T.2.2), up c2 len (nI k), len + 1, ?_, ?_, ⟨by omega, fun j hj => ?_⟩, rfl⟩
        · rw [jlt_t (by omega) (by omega), if_pos (show nI 0 = nI 0 from rfl)]
          simp (disch := omega) only [jl_, nI_add, pk_sub, pk_mul, j_neg, jlt_t, jlt_f, jle_t, jle_f, jeq_t, jeq_f, jld, jst, obs, j_div, ↓reduceIte, if_true, if_false, Nat.add_zero, Nat.sub_zero, Nat.add_sub_cancel_left]
        · rw [jeq_f c6 (by omega) (by omega), chr_sp (by omega)]
          simp (disch := omega) only [jl_, nI_add, pk_sub, pk_mul, j_neg, jlt_t, jlt_f, jle_t, jle_f, jeq_t, jeq_f, jld, jst, obs, j_div, ↓reduceIte, if_true, if_false, Nat.add_zero, Nat.sub_zero, Nat.add_sub_cancel_left]
        · show up T.1 len (nI k) j = up c2 len (nI k) j ∧ _
          by_cases e : j = len
          · rw [up_eq e, up_eq e]
            exact ⟨rfl, k, by omega, up_eq e⟩
          · rw [up_ne e, up_ne e]
            obtain ⟨z1, q, z2, z3⟩ := hx.2 j (by omega)
            exact ⟨z1, q, z2, by
              show up T.1 len (nI k) j = _
              rw [up_ne e]
              exact z3⟩
    · rw [decide_eq_false c, bI_f, if_pos (show nI 0 = nI 0 from rfl)]
      refine ⟨-nI 12, T, c2, len, ?_, rfl, hx, hs⟩
      by_cases c8 : k < 32
      · rw [jlt_t c8 (by omega)]
      · rw [jlt_f (by omega) (by omega), jle_f (by omega) (by omega)]
end S
