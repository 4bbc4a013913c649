/-! RULE'S ROUND BY VALUES: the class's two rules change places -/
def zQFP (D : va_G) (tys : List (ClassId × FieldType)) (o : zO) (z : Nat) (h : zH) (Post : Option Value → (Nat → Nat) → (Nat → Nat → Value) → (Nat → Nat → Int32) → Prop) : Array Value → State → Outcome → State → Prop := fun _ st oc t => (∃ (v : Option Value) (ws' : va_W), oc = .returned v ∧ zwr vwCl tys o h ws' ∧ va_P D vwCl ws' t.heap ∧ va_D (zA z) ws' ∧ Post v (zwB ws') (zwV ws') (zwA ws')) ∧ va_F (zA z) st t
/-- what a call does, with values; the world behind it may be told in another order -/
def zCtP (l : Launch) (D : va_G) (tys : List (ClassId × FieldType)) (o : zO) (z : Nat) (h : zH) (b : Nat → Nat) (mr : zM) (fr lo : Nat) (vs : List Value) (f : Nat → Nat → Value) (g : Nat → Nat → Int32) (Post : Option Value → (Nat → Nat) → (Nat → Nat → Value) → (Nat → Nat → Int32) → Prop) : Prop := ∀ ws : va_W, zwr vwCl tys o h ws → zwB ws = b → zwV ws = f → zwA ws = g → Met l mr.1 (.code mr.1 mr.2.1 mr.2.2.1 mr.2.2.2.1 :: zTs) { frames := fr, cells := mr.2.2.2.2.1, slots := mr.2.2.2.2.2.1, locals := lo } (va_Pc vs (zSt D vwCl tys o z (zXX o z) h ws)) (zQFP D tys o z h Post) mr.2.2.2.2.1 mr.2.2.2.2.2.1 (zA z)
section ZWP
variable {p : Program} {l : Launch} {e : Env} {R : Room} {s : State} {m : MethodId} {args : Array Value} {below : List Frame} {meth : Method} {c0 : Code} {Q : State → Prop} {D : va_G} {tys : List (ClassId × FieldType)} {o : zO} {z : Nat} {own : String} {cc : ByteArray} {nL : Nat} {nm : String} {h : zH} {H0 : Heap} {b : Nat → Nat} {f : Nat → Nat → Value} {g : Nat → Nat → Int32} {ws : va_W} {H : Heap} {locs : List Loc} {cells slots : Nat} {ls : Array Slot} {rest : List Value}
theorem zV_callVP (C : zCx p R s m args meth c0 D vwCl tys z (zXX o z) zTs own cc nL nm) {pc n idx fr lo : Nat} {mr : zM} {As : List Value} {Post : Option Value → (Nat → Nat) → (Nat → Nat → Value) → (Nat → Nat → Int32) → Prop} {ci k N : Nat} {T : u_T} {gs : List zAV} (hM : zCtP l D tys o z h b mr fr lo (.ref (b k) :: As) f g Post) (hc0 : mr.2.2.2.2.1 = 0) (hs0 : mr.2.2.2.2.2.1 = 0) (hF : fr + 1 ≤ R.frames) (hL : 8 + (mr.2.2.1 + 11) + lo ≤ R.locals) (hcl : vwCl[ci]? = some (mr.1.cls, T, N)) (hcode : Cond.code mr.1 mr.2.1 mr.2.2.1 mr.2.2.2.1 ∈ zTs) (hl : Cond.methodLink own idx mr.1 ∈ zTs) (hin : Cond.instanceMethod mr.1 ∈ zTs) (hsel : Cond.selects mr.1.cls mr.1 mr.1 ∈ zTs) (hini : Cond.initialized mr.1.cls ∈ zTs) (hpar : zPar mr.1 n) (hd : decode cc pc = .ok (.invokevirtual idx, 3)) (hlen : As.length = n) (hc : zrget h.2.1 k = some (.inr (ci, gs))) (hk : k < h.1) (hv : zV h D tys o z s.heap b f g ws H locs) (hsz : ls.size = nL) (hroom : (rest.map fun v => v.category).sum ≤ 8) (hcb : cells ≤ R.cells) (hsb : slots ≤ R.slots)
    (kk : ∀ (v : Option Value) (b' : Nat → Nat) (f' : Nat → Nat → Value) (g' : Nat → Nat → Int32) (ws' : va_W) (H1 : Heap) (locs1 : List Loc), Post v b' f' g' → zV h D tys o z s.heap b' f' g' ws' H1 locs1 → W p l e R s m args below meth c0 H1 locs1 cells slots Q (F0 m (pc + 3) ls (v.toList ++ rest))) : W p l e R s m args below meth c0 H locs cells slots Q (F0 m pc ls (As.reverse ++ .ref (b k) :: rest)) := by
  obtain ⟨hw, hP, hD, hS, w1, w2, w3⟩ := id hv
  have hM := hM ws hw w1 w2 w3
  obtain ⟨vs9, hob, -, -⟩ := zV_ob hv hc hk
  have hcell := va_recv C.2.2.2.2.2.1 hP hcl hob
  have hrun := va_runV (As := As) (b := b k) (H := H) (locs := locs) (cells := cells) (slots := slots) (rest := rest) (g := F0 m pc ls (As.reverse ++ .ref (b k) :: rest)) (mc := mr.2.2.2.2.1) (ms := mr.2.2.2.2.2.1) (n := n) (C := mr.1.cls) (index := idx) (below := below) (e := e) (meth := meth) ⟨C.1, C.2.1, C.2.2.1, C.2.2.2.1, C.2.2.2.2.1⟩ hM ⟨callB_of n C.2.2.2.2.1 (zgood zTs_good hcode) rfl rfl rfl (C.2.2.2.2.1 _ hini) (C.2.2.2.2.1 _ hl) hpar ⟨hF, hL⟩, C.2.2.2.2.1 _ hin, C.2.2.2.2.1 _ hsel⟩ ⟨zblind zXX_ok, hcell, fun U hU hW => ⟨rfl, hw, by rw [hU]; exact hP, hD, va_K.moved hW.alike C.2.2.2.2.2.1, by rw [hU]; exact zXX_ok.2.1 s U H hW (zXX_ok.2.2 s s.heap H C.2.2.2.2.2.2.2.2.1 (fun q hq => hS.2.1 q (Nat.lt_of_lt_of_le hq C.2.2.2.2.2.2.2.2.1) (Nat.not_le.mpr hq)) C.2.2.2.2.2.2.2.1), by rw [hU]; exact Nat.le_trans C.2.2.2.2.2.2.2.2.1 hS.1⟩⟩ rfl hlen hsz rfl (lv_room hroom) hd ⟨by rw [hc0]; exact hcb, by rw [hs0]; exact hsb⟩
  intro T9 hT Y
  obtain ⟨v, st₀, t, T', L, h0, Y', hL9, e1, e2, ⟨⟨v', ws', hvv, p1, p2, p3, p5⟩, hz, hk9⟩, st⟩ := hrun T9 hT Y
  cases hvv
  rw [h0] at hz hk9
  rw [← e1] at p2
  rw [hc0, hs0] at Y'
  obtain ⟨t2, a1, b1⟩ := kk _ _ _ _ ws' T'.heap (locs ++ L) p5 ⟨p1, p2, p3, ⟨Nat.le_trans hS.1 (by rw [e1]; exact hz), fun q h1 h2 => by rw [e1, hk9 q (Nat.lt_of_lt_of_le h1 hS.1) h2]; exact hS.2.1 q h1 h2, fun q hq => by
      rcases List.mem_append.mp hq with h | h
      · exact hS.2.2 q h
      · exact hL9 q h⟩, rfl, rfl, rfl⟩ T' rfl Y'
  exact ⟨t2, st t2 a1, b1⟩
end ZWP
noncomputable def xw_set (h : zH) (k j q : Nat) : zH := match zrget h.2.1 k with
  | some (.inr (ci, fs)) => (h.1, zrset h.2.1 k (.inr (ci, zset fs (.inr (.inr (.inl q))) j)), h.2.2)
  | _ => h
noncomputable def xwP : zH := xw_set (xw_set zyI 3 9 83) 0 14 10
noncomputable def xwq : List (Option zAV × zH) := [(some (.inl ((-2147483648, -1), none)), (zyI.1, zyI.2.1, zmall)), (some (.inl ((0, 0), none)), (xwP.1, xwP.2.1, zmall))]
set_option maxRecDepth 100000 in
theorem xw_run : zrunw zprog2 (zovW zyds) 10000 zcut0 300 60000 mX7_rule.2.2.2.2.2.2 (zkinL xwq) 0 (zargs 0 (xz_as 0 0), [], (zyI.1, zyI.2.1, 0), 0, 0) = true := by decide +kernel
set_option maxRecDepth 100000 in
theorem xw_ck : zfor (xb_ck xwP) 126 = true := by decide +kernel
set_option maxRecDepth 100000 in
theorem xw_ok : (zpmok zPS 126 && zpmh zPS xwP zyI) = true := by decide +kernel
set_option maxRecDepth 100000 in
theorem xw_126 : Nat.beq xwP.1 126 = true := by decide +kernel
set_option maxRecDepth 100000 in
theorem xw_T : ∀ k, k < 126 → zrget xqT (zpm zPS k) = zrget xqT k := by decide +kernel
set_option maxRecDepth 100000 in
theorem xw_pm : ∀ k, k < 126 → zpm zPS k = yg_pm k := by decide +kernel
section XWM
variable {l : Launch} {D : va_G} {tys : List (ClassId × FieldType)} {o : zO} {z : Nat} {b : Nat → Nat} {f : Nat → Nat → Value} {g : Nat → Nat → Int32}
theorem xw_met (E : zEnv tys) : zMet l D vwCl tys o z (zXX o z) zTs mX7_rule 300 60000 zyI (xz_as 0 0) (zkinL xwq) := zMet_run (ov := zovW zyds) (prog := zprog2) (n := 10000) (fun g => zovW_ok (o := zwith o g) (zyds_ok E (zyF E) (zyS E))) zXX_ok (fun g => zprog2_ok (o := zwith o g) E) (show zget zprog2 163 = some mX7_rule from rfl) (by decide) (by decide) (by decide) (by decide) xw_run
theorem xw_B {ws : va_W} (hl : ws.length = 126) (k : Nat) (hk : k < 126) : zwB (zpmw (zpm zPS) ws) k = zwB ws (zpm zPS k) ∧ (zwV (zpmw (zpm zPS) ws) k = zwV ws (zpm zPS k)) ∧ zwA (zpmw (zpm zPS) ws) k = zwA ws (zpm zPS k) := by
  have hp : zpmok zPS ws.length = true := by
    rw [hl]
    have := xw_ok
    rw [Bool.and_eq_true] at this
    exact this.1
  have e : (zpmw (zpm zPS) ws)[k]? = ws[zpm zPS k]? := by
    rw [zpmw_get (fun k hk => (zpm_of hp k hk).1), if_pos (by omega)]
  refine ⟨?_, funext fun j => ?_, ?_⟩
  · unfold zwB
    rw [e]
  · unfold zwV
    rw [e]
  · unfold zwA
    rw [e]
theorem zcx_rule (E : zEnv tys) {d : Nat} (hd : d ≤ 200) {Po : Int32 → (Nat → Nat → Int32) → Prop} (hx : ∀ J : Nat → Nat → Int64, ∃ a I' J' R', xq_D xqP d 163 [.ref 0] (xb_I f g, J, xb_R zyI f) = some (some (.int a), I', J', R') ∧ Po a I') : zCtP l D tys o z zyI b mX7_rule 300 60000 [.ref (b 0)] f g (fun v b' f' g' => ∃ a I', v = some (.int a) ∧ Po a I' ∧ b' 0 = b 0 ∧ b' 94 = b 94 ∧ b' 125 = b 125 ∧ xb_ag (if a = 0 then fun k => I' (yg_pm k) else I') f' g') := by
  intro ws w0 w1 w2 w3 p e a1 a2 a3 s m args below b1 b2 b3 b4
  obtain ⟨n, oc, d1, d2, d3, ⟨⟨⟨r', v, h', ws', f1, f2, f3, f4, f5, f6, f7⟩, g1⟩, g2⟩⟩ := xw_met (l := l) (D := D) (o := o) (z := z) E ws [.ref (b 0)] (xz_vs w0 w1 (by decide) []) p e a1 a2 a3 s m args below b1 b2 b3 b4
  subst w1
  subst w2
  subst w3
  obtain ⟨a, I', J', R', x1, x2⟩ := hx (xb_J ws)
  have hrd := xb_rd w0 rfl xz_ckI
  have hMt := xq_D_ok (b := xb_b (zwV ws) (zwB ws)) (l := l) (D := D) (tys := tys) (X := zXX o z) zXX_ok (xqP_ok E) d 163 mX7_rule [.ref 0] _ _ (show zget zprog 163 = some mX7_rule from rfl) x1 300 60000 (by omega) (by omega) ws hrd
  obtain ⟨n', oc', k1, k2, k3, ⟨⟨⟨y1, ws2, y2, y3, y4⟩, y5⟩, -⟩⟩ := hMt p e a1 a2 a3 s m args below b1 b2 (by
    obtain ⟨c1, c2, c3, c4, c5, c6, c7⟩ := b3
    refine ⟨?_, hrd, c3, c4, c5, c6, c7⟩
    have e0 : [Value.ref 0].map (xq_v (xb_b (zwV ws) (zwB ws))) = [Value.ref (zwB ws 0)] := by
      show [Value.ref (xb_b (zwV ws) (zwB ws) 0)] = _
      rw [xb_b_lt (by omega)]
    rw [e0]
    exact c1) b4
  obtain ⟨e1, e2⟩ := the_end_unique (f := fun k => stepsAlone p.tables e k s) d1 d3 k1 k3
  subst e1
  subst e2
  rw [y1] at f1
  cases f1
  obtain ⟨q, hq, hz⟩ := zany_ok f7
  obtain ⟨u1, u2, u3⟩ := zkin_ok hz f2
  have w5 : zwr vwCl tys o q.2 ws' := zhl_ok u2 f4
  have hl0 : ws.length = 126 := w0.1
  unfold xwq at hq
  simp only [List.mem_cons, List.not_mem_nil, or_false] at hq
  have hB : ∀ k, k < 126 → zwB ws' k = zwB ws k := by
    intro k hk
    obtain ⟨e', h1, -⟩ := f3 k ws[k].1 ws[k].2 (List.getElem?_eq_getElem (by omega))
    unfold zwB
    rw [h1, List.getElem?_eq_getElem (by omega)]
  have hb2 : ∀ k, k < 126 → xb_b (zwV ws) (zwB ws) k = zwB ws' k := fun k hk => by rw [xb_b_lt (by omega), hB k hk]
  rcases hq with rfl | rfl
  · obtain ⟨x, hx1, hx2⟩ := u1
    have hxa : x = a := (Value.int.inj hx1).symm
    subst hxa
    obtain ⟨-, hx3⟩ := hx2
    have hx3 : x.toInt ≤ -1 := hx3
    have ha : ¬ x = 0 := fun z => by
      rw [z] at hx3
      exact absurd hx3 (by decide)
    have w6 : zwr vwCl tys o zyI ws' := w5
    refine ⟨n, _, d1, d2, d3, ⟨⟨some (.int x), ws', y1, w6, f5, f6, x, I', rfl, x2, hB 0 (by omega), hB 94 (by omega), hB 125 (by omega), ?_⟩, g1⟩, g2⟩
    rw [if_neg ha]
    exact xb_end w6 rfl xz_ckI f5 y2 y3 hb2
  · obtain ⟨x, hx1, hx2⟩ := u1
    have hxa : x = a := (Value.int.inj hx1).symm
    subst hxa
    obtain ⟨hx4, hx3⟩ := hx2
    have hx3 : x.toInt ≤ 0 := hx3
    have hx4 : 0 ≤ x.toInt := hx4
    have ha : x = 0 := by
      apply Int32.toInt_inj.mp
      have e0 : (0 : Int32).toInt = 0 := by decide
      omega
    have hP6 : xwP.1 = 126 := Nat.eq_of_beq_eq_true xw_126
    have w6 : zwr vwCl tys o xwP ws' := w5
    have hl : ws'.length = 126 := w6.1.trans hP6
    have hok := xw_ok
    rw [Bool.and_eq_true] at hok
    have hp' : zpmok zPS ws'.length = true := by rw [hl]; exact hok.1
    have hπ : ∀ k, k < ws'.length → zpm zPS k < ws'.length := fun k hk => (zpm_of hp' k hk).1
    have hag := xb_end w6 hP6 xw_ck f5 y2 y3 hb2
    have hp0 : zpm zPS 0 = 0 := by decide +kernel
    have hp94 : zpm zPS 94 = 94 := by decide +kernel
    have hp125 : zpm zPS 125 = 125 := by decide +kernel
    refine ⟨n, _, d1, d2, d3, ⟨⟨some (.int x), zpmw (zpm zPS) ws', y1, zwr_pm (h := xwP) (by rw [hP6]; exact hok.1) hok.2 w6, ?_, ⟨?_, ?_⟩, x, I', rfl, x2, ?_, ?_, ?_, ?_⟩, g1⟩, g2⟩
    · intro i x hx
      rw [zpmw_get hπ] at hx
      split at hx
      · exact f5 _ x hx
      · cases hx
    · intro i i' x x' hx hx' he
      rw [zpmw_get hπ] at hx hx'
      split at hx
      · rename_i hi
        split at hx'
        · rename_i hi'
          have := f6.1 _ _ x x' hx hx' he
          rw [← (zpm_of hp' i hi).2, ← (zpm_of hp' i' hi').2, this]
        · cases hx'
      · cases hx
    · intro i x hx
      rw [zpmw_get hπ] at hx
      split at hx
      · exact f6.2 _ x hx
      · cases hx
    · rw [(xw_B hl 0 (by omega)).1, hp0, hB 0 (by omega)]
    · rw [(xw_B hl 94 (by omega)).1, hp94, hB 94 (by omega)]
    · rw [(xw_B hl 125 (by omega)).1, hp125, hB 125 (by omega)]
    · rw [if_pos ha]
      refine ⟨fun k ci ts hT j t hj ht => ?_, fun k t n hT ht i hi => ?_⟩
      · have hk := xqT_lt hT
        rw [(xw_B hl k hk).2.1, hag.1 (zpm zPS k) ci ts ((xw_T k hk).trans hT) j t hj ht, xw_pm k hk]
      · have hk := xqT_lt hT
        rw [(xw_B hl k hk).2.2, hag.2 (zpm zPS k) t n ((xw_T k hk).trans hT) ht i hi, xw_pm k hk]
end XWM
