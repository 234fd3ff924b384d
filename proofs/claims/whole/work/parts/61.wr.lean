/-! WRITING AND FLUSHING on both sides -/
theorem pi_sq {P : List en_P} {lf : Nat → Option Nat} {rs sq : Nat} (h : pi_ok P lf rs sq) {x : en_T} {o : Option Nat} (hx : (x, o) ∈ P) : 0 < x.2.1 ∧ x.2.1 ≤ sq := h.2.1 x o hx
theorem co_w {tb : List en_T} {lv : Nat → List (List en_T)} {P : List en_P} {lf : Nat → Option Nat} {rs sq : Nat} (h : co_ok tb lv P lf rs sq) {x : en_T} (hx : x.2.1 = sq + 1) : co_ok (tb ++ [x]) lv (P ++ [(x, none)]) lf rs (sq + 1) := by
  obtain ⟨h1, h2, p1, p2, p3, p4, p5, p6⟩ := h
  have hm : ∀ y o, (y, o) ∈ P ++ [(x, none)] → (y, o) ∈ P ∨ (y = x ∧ o = none) := by
    intro y o hy
    rcases List.mem_append.mp hy with h | h
    · exact Or.inl h
    · have e := List.mem_singleton.mp h
      cases e
      exact Or.inr ⟨rfl, rfl⟩
  have hs : ∀ y r, (y, some r) ∈ P ++ [(x, none)] → (y, some r) ∈ P := by
    intro y r hy
    rcases hm y _ hy with h | h
    · exact h
    · cases h.2
  refine ⟨?_, fun l hl => ?_, ?_, ?_, ?_, ?_, ?_, ?_⟩
  · rw [se_app, se_1, if_pos rfl, h1]
  · rw [h2 l hl]
    refine List.map_congr_left (fun r _ => ?_)
    rw [se_app, se_1, if_neg (by simp), List.append_nil]
  · rw [List.pairwise_append]
    refine ⟨p1, List.pairwise_singleton _ _, fun a ha b hb => ?_⟩
    rw [List.mem_singleton.mp hb]
    have := (p2 a.1 a.2 ha).2
    show a.1.2.1 < x.2.1
    omega
  · intro y o hy
    rcases hm y o hy with h | h
    · have := p2 y o h; omega
    · rw [h.1]; omega
  · exact fun y r hy => p3 y r (hs y r hy)
  · intro r l hr hl
    obtain ⟨y, hy⟩ := p4 r l hr hl
    exact ⟨y, List.mem_append_left _ hy⟩
  · intro a b r ha hb
    have hb := hs b r hb
    rcases hm a _ ha with h | h
    · exact p5 a b r h hb
    · rw [h.1]
      have := p2 b _ hb
      omega
  · exact fun a b r q l m ha hb => p6 a b r q l m (hs a r ha) (hs b q hb)
def fl_P (rs : Nat) (P : List en_P) : List en_P := P.map (fun p => (p.1, if p.2 = none then some rs else p.2))
theorem fl_none (rs : Nat) (P : List en_P) : se_l none (fl_P rs P) = [] := by
  induction P with
  | nil => rfl
  | cons p P ih =>
    show se_l none ((p.1, if p.2 = none then some rs else p.2) :: fl_P rs P) = []
    rw [se_cons, if_neg, ih]
    by_cases h : p.2 = none <;> simp [h]
theorem fl_old {rs r : Nat} (P : List en_P) (h : r ≠ rs) : se_l (some r) (fl_P rs P) = se_l (some r) P := by
  induction P with
  | nil => rfl
  | cons p P ih =>
    show se_l (some r) ((p.1, if p.2 = none then some rs else p.2) :: fl_P rs P) = _
    rw [se_cons, se_cons, ih]
    by_cases h1 : p.2 = none
    · simp [h1, Ne.symm h]
    · simp [h1]
theorem fl_new {rs : Nat} (P : List en_P) (h : ∀ x r, (x, some r) ∈ P → r < rs) : se_l (some rs) (fl_P rs P) = se_l none P := by
  induction P with
  | nil => rfl
  | cons p P ih =>
    show se_l (some rs) ((p.1, if p.2 = none then some rs else p.2) :: fl_P rs P) = _
    rw [se_cons, se_cons, ih (fun x r hx => h x r (List.mem_cons_of_mem _ hx))]
    by_cases h1 : p.2 = none
    · simp [h1]
    · have : p.2 ≠ some rs := by
        intro z
        have := h p.1 rs (by rw [← z]; exact List.mem_cons_self)
        omega
      simp [h1, this]
theorem fl_mem {rs : Nat} {P : List en_P} {x : en_T} {o : Option Nat} : (x, o) ∈ fl_P rs P ↔ ((x, none) ∈ P ∧ o = some rs) ∨ ((x, o) ∈ P ∧ o ≠ none) := by
  simp only [fl_P, List.mem_map]
  constructor
  · rintro ⟨⟨y, q⟩, h1, h2⟩
    cases q with
    | none => simp at h2; obtain ⟨rfl, rfl⟩ := h2; exact Or.inl ⟨h1, rfl⟩
    | some q => simp at h2; obtain ⟨rfl, rfl⟩ := h2; exact Or.inr ⟨h1, by simp⟩
  · rintro (⟨h1, rfl⟩ | ⟨h1, h2⟩)
    · exact ⟨_, h1, by simp⟩
    · exact ⟨_, h1, by simp [h2]⟩
theorem co_fl {tb : List en_T} {lv : Nat → List (List en_T)} {P : List en_P} {lf : Nat → Option Nat} {rs sq : Nat} (h : co_ok tb lv P lf rs sq) (hne : tb ≠ []) : co_ok [] (va_up lv 0 (lv 0 ++ [so_st tb])) (fl_P rs P) (va_up lf rs (some 0)) (rs + 1) sq := by
  obtain ⟨h1, h2, p1, p2, p3, p4, p5, p6⟩ := h
  have hlt : ∀ x r, (x, some r) ∈ P → r < rs := fun x r hx => (p3 x r hx).1
  have hid : ∀ l, id_l (va_up lf rs (some 0)) l rs = id_l lf l rs := fun l => id_cong (fun r hr => by rw [dk_un (show r ≠ rs by omega)])
  have hmap : ∀ l, (id_l lf l rs).map (fun r => so_st (se_l (some r) (fl_P rs P))) = (id_l lf l rs).map (fun r => so_st (se_l (some r) P)) := by
    intro l
    refine List.map_congr_left (fun r hr => ?_)
    have := (id_mem.mp hr).1
    rw [fl_old P (show r ≠ rs by omega)]
  have hl' : ∀ {r : Nat}, r < rs → va_up lf rs (some 0) r = lf r := fun hr => dk_un (by omega)
  refine ⟨(fl_none rs P).symm, fun l hl => ?_, ?_, ?_, ?_, ?_, ?_, ?_⟩
  · rw [id_s, hid, dk_us]
    by_cases e : l = 0
    · subst e
      rw [dk_us, if_pos rfl, List.map_append, hmap, List.map_singleton, fl_new P hlt, ← h1, h2 0 (by omega)]
    · rw [dk_un e, if_neg (fun z => e (Option.some.inj z).symm), hmap, h2 l hl]
  · rw [fl_P, List.pairwise_map]
    exact p1
  · intro x o hx
    rcases fl_mem.mp hx with ⟨h, -⟩ | ⟨h, -⟩
    · exact p2 x _ h
    · exact p2 x _ h
  · intro x r hx
    rcases fl_mem.mp hx with ⟨h, e⟩ | ⟨h, -⟩
    · cases e
      exact ⟨by omega, 0, dk_us⟩
    · obtain ⟨g1, l, g2⟩ := p3 x r h
      exact ⟨by omega, l, by rw [hl' g1]; exact g2⟩
  · intro r l hr hl
    by_cases e : r = rs
    · subst e
      obtain ⟨x, hx⟩ := List.exists_mem_of_ne_nil _ hne
      rw [h1] at hx
      exact ⟨x, fl_mem.mpr (Or.inl ⟨se_mem.mp hx, rfl⟩)⟩
    · rw [hl' (by omega)] at hl
      obtain ⟨x, hx⟩ := p4 r l (by omega) hl
      exact ⟨x, fl_mem.mpr (Or.inr ⟨hx, by simp⟩)⟩
  · intro x y r hx
    rcases fl_mem.mp hx with ⟨-, e⟩ | ⟨-, e⟩
    · cases e
    · exact absurd rfl e
  · intro x y r q l m hx hy hr hq hlt2
    rcases fl_mem.mp hx with ⟨g1, e1⟩ | ⟨g1, -⟩
    · cases e1
      rw [dk_us] at hr
      cases hr
      rcases fl_mem.mp hy with ⟨g2, e2⟩ | ⟨g2, -⟩
      · cases e2
        rw [dk_us] at hq
        cases hq
        omega
      · exact p5 x y q g1 g2
    · have a1 := hlt x r g1
      rw [hl' a1] at hr
      rcases fl_mem.mp hy with ⟨g2, e2⟩ | ⟨g2, -⟩
      · cases e2
        rw [dk_us] at hq
        cases hq
        omega
      · have a2 := hlt y q g2
        rw [hl' a2] at hq
        exact p6 x y r q l m g1 g2 hr hq hlt2
/-! the reference's lists behind its calls -/
theorem ml_w (μ : md_S) (k : Nat) (z : Int64) (b : Bool) : ml_P (md_w μ k z b) (md_w μ k z b).n = ml_P μ μ.n ++ [((k, μ.sq + 1, z, b), none)] := by
  show ml_P (md_w μ k z b) (μ.n + 1) = _
  rw [ml_P, ml_cong (μ := μ)]
  · congr 2
    · show ((va_up μ.kf μ.n k μ.n, va_up μ.nf μ.n (μ.sq + 1) μ.n, va_up μ.vf μ.n z μ.n, va_up μ.df μ.n b μ.n), va_up μ.rf μ.n none μ.n) = _
      rw [dk_us, dk_us, dk_us, dk_us, dk_us]
  · intro j hj
    have e : j ≠ μ.n := by omega
    constructor
    · show (va_up μ.kf μ.n k j, va_up μ.nf μ.n (μ.sq + 1) j, va_up μ.vf μ.n z j, va_up μ.df μ.n b j) = _
      rw [dk_un e, dk_un e, dk_un e, dk_un e]
      rfl
    · exact dk_un e
theorem ml_fr (μ ν : md_S) (rs : Nat) : ∀ i, (∀ j, j < i → me_e ν j = me_e μ j ∧ ν.rf j = if μ.rf j = none then some rs else μ.rf j) → ml_P ν i = fl_P rs (ml_P μ i)
  | 0, _ => rfl
  | i + 1, h => by
    have h1 := h i (by omega)
    rw [ml_P, ml_P, ml_fr μ ν rs i (fun j hj => h j (by omega)), h1.1, h1.2]
    simp [fl_P]
theorem fl_r_in {μ : md_S} {j : Nat} (h : j < μ.n) : fl_r μ μ.n j = if μ.rf j = none then some μ.rs else μ.rf j := by
  unfold fl_r
  by_cases e : μ.rf j = none
  · rw [if_pos ⟨h, e⟩, if_pos e]
  · rw [if_neg (fun z => e z.2), if_neg e]
theorem rl_tbk {σ : kp_S} {μ : md_S} (h : rl_c σ μ) : md_k μ = σ.tb.length := by
  obtain ⟨-, -, -, ⟨h1, -⟩, -⟩ := h
  rw [h1, se_len]
theorem rl_fl {σ : kp_S} {μ : md_S} (h : rl_c σ μ) {n : Nat} (h1 : 1 ≤ n) (hn : n ≤ σ.tb.length) : rl_c (kp_fl σ n) (md_fl μ) := by
  have hk := rl_tbk h
  obtain ⟨⟨a1, a2, a3, a4⟩, hb, hs, hc, hf⟩ := h
  have ek : kp_fl σ n = ((σ.lv' (va_up σ.lv 0 (σ.lv 0 ++ [so_st σ.tb]))).tb' []).sf' 0 := if_pos hn
  have em : md_fl μ = (((μ.rf' (fl_r μ μ.n)).rs' (μ.rs + 1)).lf' (va_up μ.lf μ.rs (some 0))).sf' 0 := if_neg (by show ¬ md_k μ = 0; omega)
  rw [ek, em]
  refine ⟨⟨a1, rfl, a3, a4⟩, hb, hs, ?_, Nat.le_refl _⟩
  show co_ok [] (va_up σ.lv 0 (σ.lv 0 ++ [so_st σ.tb])) (ml_P _ μ.n) (va_up μ.lf μ.rs (some 0)) (μ.rs + 1) μ.sq
  rw [ml_fr μ ((((μ.rf' (fl_r μ μ.n)).rs' (μ.rs + 1)).lf' (va_up μ.lf μ.rs (some 0))).sf' 0) μ.rs μ.n (fun j hj => ⟨rfl, fl_r_in hj⟩)]
  exact co_fl hc (fun z => by rw [z] at hn; simp at hn; omega)
theorem rl_cc {σ : kp_S} {μ ν : md_S} (h : rl_c σ μ) (e1 : ν.sq = μ.sq) (e2 : ν.sf = μ.sf) (e3 : ν.pr = μ.pr) (e4 : ν.mi = μ.mi) (e5 : ν.ba = μ.ba) (e6 : ν.bk = μ.bk) (e7 : ν.bv = μ.bv) (e8 : ν.bd = μ.bd) (e9 : ν.ss = μ.ss) (e10 : ν.sv = μ.sv) (e11 : ν.n = μ.n) (e12 : ν.lf = μ.lf) (e13 : ν.rs = μ.rs) (e14 : ∀ j, j < μ.n → me_e ν j = me_e μ j ∧ ν.rf j = μ.rf j) : rl_c σ ν := by
  obtain ⟨⟨a1, a2, a3, a4⟩, hb, hs, hc, hf⟩ := h
  refine ⟨⟨a1.trans e1.symm, a2.trans e2.symm, a3.trans e3.symm, a4.trans e4.symm⟩, ?_, ?_, ?_, hf⟩
  · unfold rl_b
    rw [e5, e6, e7, e8]
    exact hb
  · unfold rl_s
    rw [e9, e10]
    exact hs
  · rw [e11, e12, e13, e1, ml_cong e14]
    exact hc
theorem rl_fl0 {σ : kp_S} {μ : md_S} (h : rl_c σ μ) (hn : σ.tb = []) : rl_c σ (md_fl μ) := by
  have hk := rl_tbk h
  rw [hn] at hk
  have em : md_fl μ = (μ.rf' (fl_r μ μ.n)).sf' 0 := if_pos hk
  rw [em]
  have hf : σ.sf ≤ 0 := by have := h.2.2.2.2; rw [hn] at this; exact this
  have he : μ.sf = 0 := by have := h.1.2.1; omega
  refine rl_cc h rfl (by rw [he]) rfl rfl rfl rfl rfl rfl rfl rfl rfl rfl rfl (fun j hj => ⟨rfl, ?_⟩)
  show fl_r μ μ.n j = _
  rw [fl_r_in hj, if_neg]
  intro z
  have h1 : me_e μ j ∈ σ.tb := by
    rw [h.2.2.2.1.1]
    exact se_mem.mpr (ml_mem.mpr ⟨j, hj, by rw [z]⟩)
  rw [hn] at h1
  cases h1
theorem rl_er {σ : kp_S} {μ : md_S} (h : rl_c σ μ) (c : Nat) : rl_c σ (μ.er' c) := rl_cc h rfl rfl rfl rfl rfl rfl rfl rfl rfl rfl rfl rfl rfl (fun j _ => ⟨rfl, rfl⟩)
theorem rl_od {σ : kp_S} {μ : md_S} (h : rl_c σ μ) (g : Nat → Nat) : rl_c σ (μ.od' g) := rl_cc h rfl rfl rfl rfl rfl rfl rfl rfl rfl rfl rfl rfl rfl (fun j _ => ⟨rfl, rfl⟩)
theorem rl_bt {σ : kp_S} {μ : md_S} (h : rl_c σ μ) (g : Nat → Bool) : rl_c σ (μ.bt' g) := rl_cc h rfl rfl rfl rfl rfl rfl rfl rfl rfl rfl rfl rfl rfl (fun j _ => ⟨rfl, rfl⟩)
theorem rl_w {σ : kp_S} {μ : md_S} (h : rl_c σ μ) (k q : Nat) (z : Int64) (b : Bool) : rl_c (kp_ap σ (k, q, z, b)) (md_w μ k z b) := by
  obtain ⟨⟨a1, a2, a3, a4⟩, hb, hs, hc, hf⟩ := h
  refine ⟨⟨?_, a2, a3, a4⟩, hb, hs, ?_, ?_⟩
  · show σ.sq + 1 = μ.sq + 1
    rw [a1]
  · rw [ml_w]
    show co_ok (σ.tb ++ [(k, σ.sq + 1, z, b)]) σ.lv _ μ.lf μ.rs (μ.sq + 1)
    rw [a1]
    exact co_w hc rfl
  · show σ.sf ≤ (σ.tb ++ [_]).length
    rw [List.length_append]
    omega
theorem md_fl_ok {μ : md_S} (h : md_ok μ) (hr : μ.rs + 1 < 4000) : md_ok (md_fl μ) := by
  obtain ⟨ok1, ok2, ok3, ok4, ok5, ok6, ok7, ok8, ok9, ok10, ok11⟩ := h
  have h3 : ∀ i r, fl_r μ μ.n i = some r → r < 5000 := by
    intro i r hi
    unfold fl_r at hi
    split at hi
    · cases hi; omega
    · exact ok3 i r hi
  unfold md_fl
  split
  · exact ⟨ok1, ok2, h3, ok4, ok5, ok6, ok7, ok8, ok9, ok10, ok11⟩
  · exact ⟨ok1, ok2, h3, fun r => up_all (P := fun o => ∀ l, o = some l → l < 6) ok4 (fun l hl => by cases hl; decide) r, ok5, hr, ok7, ok8, ok9, ok10, ok11⟩
theorem md_er_ok {μ : md_S} (h : md_ok μ) {c : Nat} (hc : c < 3) : md_ok (μ.er' c) := by
  obtain ⟨ok1, ok2, ok3, ok4, ok5, ok6, ok7, ok8, ok9, ok10, ok11⟩ := h
  exact ⟨ok1, ok2, ok3, ok4, ok5, ok6, ok7, ok8, ok9, ok10, hc⟩
theorem rl_at.er {σ : kp_S} {μ : md_S} (h : rl_at σ μ) {c : Nat} (hc : c < 3) : rl_at σ (μ.er' c) := ⟨rl_er h.1 c, md_er_ok h.2.1 hc, h.2.2.1, h.2.2.2⟩
/-- behind writes: the table is flushed if it is full -/
theorem rl_ff {σ : kp_S} {μ : md_S} (h : rl_c σ μ) (hm : md_ok μ) (hn : μ.n ≤ 600) (hr : μ.rs + 1 < 4000) : rl_at (kp_fl σ 24) (md_ff μ) := by
  have hk := rl_tbk h
  by_cases h24 : 24 ≤ σ.tb.length
  · have e1 : md_ff μ = md_fl μ := if_pos (by omega)
    rw [e1]
    refine ⟨rl_fl h (by omega) h24, md_fl_ok hm hr, ?_, ?_⟩
    · unfold md_fl
      split <;> exact hn
    · rw [show kp_fl σ 24 = ((σ.lv' (va_up σ.lv 0 (σ.lv 0 ++ [so_st σ.tb]))).tb' []).sf' 0 from if_pos h24]
      show ([] : List en_T).length < 24
      decide
  · have e1 : md_ff μ = μ := if_neg (by omega)
    have e2 : kp_fl σ 24 = σ := if_neg h24
    rw [e1, e2]
    exact ⟨h, hm, hn, by omega⟩
theorem rl_put {σ : kp_S} {μ : md_S} (h : rl_at σ μ) {k : Nat} {z : Int64} {b : Bool} (hk : k < 1024) (hn : μ.n < 600) (hs : μ.sq + 1 < 2 ^ 30) (hr : μ.rs + 1 < 4000) : rl_at (kp_fl (kp_ap σ (k, 0, z, b)) 24) (md_ff (md_w (μ.er' 0) k z b)) := by
  refine rl_ff (rl_w (rl_er h.1 0) k 0 z b) (md_w_ok (md_er_ok h.2.1 (by decide)) hk ?_ hs) ?_ hr
  · show μ.n < 640
    omega
  · show μ.n + 1 ≤ 600
    omega
theorem rl_putB {σ : kp_S} {μ : md_S} (h : rl_at σ μ) {k : Nat} {z : Int64} {b : Bool} (hk : k < 1024) {b9 : Nat} (hba : μ.ba = some b9) (hb9 : b9 < 16) : σ.ib = true ∧ σ.ad.length = b9 ∧ rl_at (σ.ad' (σ.ad ++ [(k, 0, z, b)])) (md_b μ k z b b9) := by
  obtain ⟨⟨ha, hb, hs, hc, hf⟩, hm, hn, ht⟩ := h
  rcases hb with ⟨b1, b2, b3⟩ | ⟨-, b2, -⟩
  · rw [hba] at b2
    cases b2
    refine ⟨b1, rfl, ⟨ha, Or.inl ⟨b1, ?_, ?_⟩, hs, ?_, hf⟩, ?_, hn, ht⟩
    · show some (σ.ad.length + 1) = some (σ.ad ++ [_]).length
      rw [List.length_append]; rfl
    · intro j x hx
      have hx : (σ.ad ++ [(k, 0, z, b)])[j]? = some x := hx
      show x = (va_up μ.bk σ.ad.length k j, 0, va_up μ.bv σ.ad.length z j, va_up μ.bd σ.ad.length b j)
      by_cases e : j < σ.ad.length
      · rw [List.getElem?_append_left e] at hx
        rw [dk_un (by omega), dk_un (by omega), dk_un (by omega)]
        exact b3 j x hx
      · rw [List.getElem?_append_right (by omega)] at hx
        have h9 := (List.getElem?_eq_some_iff.mp hx).1
        have e2 : j = σ.ad.length := by simp at h9; omega
        subst e2
        rw [Nat.sub_self] at hx
        cases hx
        rw [dk_us, dk_us, dk_us]
    · rw [show ml_P (md_b μ k z b σ.ad.length) (md_b μ k z b σ.ad.length).n = ml_P μ μ.n from ml_cong (fun j _ => ⟨rfl, rfl⟩)]
      exact hc
    · obtain ⟨ok1, ok2, ok3, ok4, ok5, ok6, ok7, ok8, ok9, ok10, ok11⟩ := hm
      exact ⟨ok1, ok2, ok3, ok4, ok5, ok6, ok7, ok8, fun c hc => by cases hc; omega, up_all (P := fun v => v < 1024) ok10 hk, show (0 : Nat) < 3 by decide⟩
  · rw [hba] at b2; cases b2
theorem rl_bn {σ : kp_S} {μ : md_S} (h : rl_at σ μ) (hba : μ.ba = none) : σ.ib = false ∧ σ.ad = [] := by
  rcases h.1.2.1 with ⟨b1, b2, b3⟩ | ⟨b1, b2, b3⟩
  · rw [hba] at b2; cases b2
  · exact ⟨b1, b3⟩
theorem rl_by {σ : kp_S} {μ : md_S} (h : rl_at σ μ) {b9 : Nat} (hba : μ.ba = some b9) : σ.ib = true ∧ σ.ad.length = b9 ∧ ∀ (j : Nat) (x : en_T), σ.ad[j]? = some x → x = (μ.bk j, 0, μ.bv j, μ.bd j) := by
  rcases h.1.2.1 with ⟨b1, b2, b3⟩ | ⟨-, b2, -⟩
  · rw [hba] at b2; cases b2; exact ⟨b1, rfl, b3⟩
  · rw [hba] at b2; cases b2
theorem rl_batch {σ : kp_S} {μ : md_S} (h : rl_at σ μ) (hba : μ.ba = none) : rl_at (σ.ib' true) ((μ.er' 0).ba' (some 0)) := by
  obtain ⟨h1, h2⟩ := rl_bn h hba
  obtain ⟨⟨ha, hb, hs, hc, hf⟩, hm, hn, ht⟩ := h
  refine ⟨⟨ha, Or.inl ⟨rfl, ?_, ?_⟩, hs, ?_, hf⟩, ?_, hn, ht⟩
  · show some 0 = some σ.ad.length
    rw [h2]; rfl
  · intro j x hx
    have hx : σ.ad[j]? = some x := hx
    rw [h2] at hx
    cases hx
  · rw [show ml_P ((μ.er' 0).ba' (some 0)) ((μ.er' 0).ba' (some 0)).n = ml_P μ μ.n from ml_cong (fun j _ => ⟨rfl, rfl⟩)]
    exact hc
  · obtain ⟨ok1, ok2, ok3, ok4, ok5, ok6, ok7, ok8, ok9, ok10, ok11⟩ := hm
    exact ⟨ok1, ok2, ok3, ok4, ok5, ok6, ok7, ok8, fun c hc => by cases hc; omega, ok10, show (0 : Nat) < 3 by decide⟩
theorem rl_wl {σ : kp_S} {μ : md_S} (h : rl_c σ μ) (hb3 : ∀ (j : Nat) (x : en_T), σ.ad[j]? = some x → x = (μ.bk j, 0, μ.bv j, μ.bd j)) : ∀ i, i ≤ σ.ad.length → rl_c (ap_L σ (σ.ad.take i)) (md_wl μ i)
  | 0, _ => h
  | i + 1, hi => by
    have ih := rl_wl h hb3 i (by omega)
    have hx := List.getElem?_eq_getElem (l := σ.ad) (i := i) (by omega)
    have e := hb3 i _ hx
    rw [List.take_add_one, hx]
    show rl_c (ap_L σ (σ.ad.take i ++ [σ.ad[i]])) (md_w (md_wl μ i) (μ.bk i) (μ.bv i) (μ.bd i))
    rw [ap_snoc, e]
    exact rl_w ih _ _ _ _
theorem rl_ib {σ : kp_S} {μ : md_S} (h : rl_c σ μ) : rl_c ((σ.ib' false).ad' []) (μ.ba' none) := by
  obtain ⟨ha, hb, hs, hc, hf⟩ := h
  refine ⟨ha, Or.inr ⟨rfl, rfl, rfl⟩, hs, ?_, hf⟩
  rw [show ml_P (μ.ba' none) (μ.ba' none).n = ml_P μ μ.n from ml_cong (fun j _ => ⟨rfl, rfl⟩)]
  exact hc
theorem kp_fl_ib (σ : kp_S) (n : Nat) : ((kp_fl σ n).ib' false).ad' [] = kp_fl ((σ.ib' false).ad' []) n := by
  unfold kp_fl
  by_cases h : n ≤ σ.tb.length
  · rw [if_pos h, if_pos (show n ≤ ((σ.ib' false).ad' []).tb.length from h)]
  · rw [if_neg h, if_neg (show ¬ n ≤ ((σ.ib' false).ad' []).tb.length from h)]
theorem rl_end {σ : kp_S} {μ : md_S} (h : rl_at σ μ) {b9 : Nat} (hba : μ.ba = some b9) (hb9 : b9 ≤ 16) {i : Nat} (hi : i ≤ b9) (hn : μ.n + i ≤ 600) (hs : μ.sq + i < 2 ^ 30) (hr : μ.rs + 1 < 4000) : rl_at (((kp_fl (ap_L σ (σ.ad.take i)) 24).ib' false).ad' []) (md_ff ((md_wl (μ.er' 0) i).ba' none)) := by
  obtain ⟨b1, b2, b3⟩ := rl_by h hba
  have hp := md_wl_p (μ.er' 0) i
  have hrs : ∀ i, (md_wl (μ.er' 0) i).rs = μ.rs := by
    intro i
    induction i with
    | zero => rfl
    | succ i ih => exact ih
  rw [kp_fl_ib]
  refine rl_ff (rl_ib (rl_wl (rl_er h.1 0) b3 i (by omega))) (md_wl_ok (md_er_ok h.2.1 (by decide)) i ?_ hs) ?_ ?_
  · show μ.n + i ≤ 640
    omega
  · show (md_wl (μ.er' 0) i).n ≤ 600
    rw [hp.1]
    exact hn
  · show (md_wl (μ.er' 0) i).rs + 1 < 4000
    rw [hrs]
    exact hr
theorem rl_sync {σ : kp_S} {μ : md_S} (h : rl_at σ μ) : rl_at (σ.sf' σ.tb.length) ((μ.er' 0).sf' (md_k μ)) := by
  have hk := rl_tbk h.1
  obtain ⟨⟨⟨a1, a2, a3, a4⟩, hb, hs, hc, hf⟩, hm, hn, ht⟩ := h
  refine ⟨⟨⟨a1, hk.symm, a3, a4⟩, hb, hs, ?_, Nat.le_refl _⟩, md_er_ok hm (by decide), hn, ht⟩
  rw [show ml_P ((μ.er' 0).sf' (md_k μ)) ((μ.er' 0).sf' (md_k μ)).n = ml_P μ μ.n from ml_cong (fun j _ => ⟨rfl, rfl⟩)]
  exact hc
theorem rl_flush {σ : kp_S} {μ : md_S} (h : rl_at σ μ) (hr : μ.rs + 1 < 4000) : rl_at (kp_fl σ 1) (md_fl (μ.er' 0)) := by
  have hn : (md_fl (μ.er' 0)).n = μ.n := by unfold md_fl; split <;> rfl
  by_cases h1 : 1 ≤ σ.tb.length
  · refine ⟨rl_fl (rl_er h.1 0) (Nat.le_refl _) h1, md_fl_ok (md_er_ok h.2.1 (by decide)) hr, by rw [hn]; exact h.2.2.1, ?_⟩
    rw [show kp_fl σ 1 = ((σ.lv' (va_up σ.lv 0 (σ.lv 0 ++ [so_st σ.tb]))).tb' []).sf' 0 from if_pos h1]
    show ([] : List en_T).length < 24
    decide
  · have e2 : kp_fl σ 1 = σ := if_neg h1
    have e3 : σ.tb = [] := List.eq_nil_of_length_eq_zero (by omega)
    rw [e2]
    exact ⟨rl_fl0 (rl_er h.1 0) e3, md_fl_ok (md_er_ok h.2.1 (by decide)) hr, by rw [hn]; exact h.2.2.1, h.2.2.2⟩
