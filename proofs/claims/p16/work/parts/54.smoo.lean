def zym112 : Nat := 38086238870188539021356340708830244289269265258851849088371631681602840968263148103577742077780260911203779754842988798327316041735082446202645973958757099263155439815547174916727799203670967975460685480257967549996826198011312948474493031366269904558567208348601218076906898395489322558087643154966227996471910677794441919175915269208841075446687766672355366550119892649299391550411787964095856808346839959471262417887753156167919331563297358023078367756616662960660108756350216710173303475602787539817033743893904013003744477054851565511422318253017014055857727591814205154605685874588815394501964555001523632429636561709339615188465485672759659283435452750089826147127228062528866653180801632177267273976172310129631413928960734279557806523086737090444357969043930969106209871020867421799473082139325575427639552584078818186514203686219690928658531129508157692378933641400814076117213813887804096924249526714437265109023621897454576366127153108953993584991805096123327075037763937529964247661189144908620273286962051160695678428296151071821799285398835343353383820216276505841747330280911314135491567582358953908259627669968906618424263528959480440890801317107458636695026049810901260389795962240742583486774042834507787733033366476900441427105390471312449424765199710860276780013678030192217954136606908177805027446729267872873967780594350821396417183858615351353246870082853472553378294428813186601389218599786152769318950399930350808980615608494277357386765011872266675529335440426781027775990135576767973141463826092852388434343442790158507501825857830269444844448222602300341392308800420878257708324982515269485120106884260314912131011878421799653910267673297932208839133812357471196189954694369747394618748546056007276746334904077492461952888614983128937562616353234346166587929257395245744945336597993594353771157654351578922817141058473579783220894972001204813822072490504604206921077704188141076007226628313802243084033224080819137186114161286536770148597669513723594102065191974980531068519461063077565874528523648986663977564052675702725513386200755385178283135281533987608827648580620609758801180175201375389104447116114565341592295849035356982224535432480368964276979624439262763615116667579919237120
noncomputable def zyh2133 : zH := (126, [zyr9, zyr10, zyr11, zyr12, zyr13, zyr18, zyr15, zyr16], zym112)
noncomputable def zySds : List zKw := [zyx696d, zyx695d]
noncomputable def zySk : zRt := zkinL [(some (.inl ((.negSucc 2147483647, .ofNat 2147483647), none)), zyh2130)]
noncomputable def zyS10 : zK := ([(0, .inr (.inr (.inl 94)))], [], zyh2133, 0, 0)
noncomputable def zySm : zH := zmH zyh2133 (zuW zmX)
noncomputable def zyS20 : zK := ([(0, .inr (.inr (.inl 94)))], [], (zySm.1, zySm.2.1, Nat.lor zym112 zmX), 0, 0)
noncomputable def zyS61 : zK := ([(1, .inl ((.negSucc 2147483647, .ofNat 2147483647), none)), (0, .inr (.inr (.inl 94)))], [], (zySm.1, zySm.2.1, Nat.lor zym112 zmX), 0, 0)
set_option maxRecDepth 100000 in
theorem zyS_0 : zrunw zprog2 (zovW zySds) 100000 (zcutH [(10, zyS10, [])]) 250 30000 k2X8_smoothest (fun _ _ => false) 0 (zargs 0 [.inr (.inr (.inl 94))], [], (zyh2.1, zyh2.2.1, 0), 0, 0) = true := by decide +kernel
set_option maxRecDepth 100000 in
theorem zyS_20 : zrunw zprog2 (zovW zySds) 100000 zcut0 250 30000 k2X8_smoothest zySk 20 zyS20 = true := by decide +kernel
set_option maxRecDepth 100000 in
theorem zyS_61 : zrunw zprog2 (zovW zySds) 100000 zcut0 250 30000 k2X8_smoothest zySk 61 zyS61 = true := by decide +kernel
set_option maxRecDepth 100000 in
theorem zyS_h : zhl zyh2133 (zuW 0) = true := by decide +kernel
set_option maxRecDepth 100000 in
theorem zyS_r : zl2 (zl2 (fun _ _ => true)) (zuW zmX).2.1 zyh2133.2.1 = true := by decide +kernel
set_option maxHeartbeats 4000000 in
theorem zyS {l : Launch} {D : va_G} {tys : List (ClassId × FieldType)} {o : zO} {z : Nat} (E : zEnv tys) : zKnW l D vwCl tys o z (zXX o z) zTs zprog2 zySd := by
  have hds : ∀ g, ∀ d ∈ zySds, zKnW l D vwCl tys (zwith o g) z (zXX o z) zTs zprog2 d := fun g => List.forall_mem_cons.mpr ⟨zyx696 (o := zwith o g) E, List.forall_mem_cons.mpr ⟨zyx695 (o := zwith o g) E, fun _ h => absurd h List.not_mem_nil⟩⟩
  intro mr hm
  have hm9 : zget zprog2 281 = some m2X8_smoothest := rfl
  have hm : zget zprog2 281 = some mr := hm
  rw [hm9] at hm
  cases hm
  refine ⟨rfl, zMet_of (mr := m2X8_smoothest) (k := zySk) (by decide) (by decide) (by decide) (show 1 ≤ 2 by decide) (show 1 ≤ 700 by decide) ?_⟩
  intro p e s m args below meth c0 Q ws0 C hrt f hf ls vst H locs ws S
  have hr := zrunw_ok (o := o) (zovW_ok (hds o.2.2)) zXX_ok (zprog2_ok E) 100000 p e zSmR s m args below meth c0 Q ws0 2 cX8_smoothest (some .int) k2X8_smoothest (zc2 (ok2X8_smoothest (o := o) E) p e zSmR s m args below meth c0 Q ws0 rfl rfl C) 250 30000 (by decide) (by decide) (fun _ _ => false) (fun pc ls v r h H locs ws cells slots _ _ _ _ _ _ _ _ _ q => by cases q) (zcutH [(10, zyS10, [])]) ?_ 0 _ zyS_0
  · exact hr f hf ls vst H locs ws S
  intro pc' c' hc f' hf' ls' vst' H' locs' ws' S'
  obtain ⟨q, hq, e1, hi, ht⟩ := zcutH_ok hc
  simp only [List.mem_cons, List.not_mem_nil, or_false] at hq
  subst hq
  subst e1
  have S' : zSat D vwCl tys (zwith o f') z ws0 2 s.heap c' ls' vst' H' locs' ws' := S'
  obtain ⟨S2, w1, w2⟩ := zinc_ok hi S'
  have ev := zr2_nil S2.2.1
  subst ev
  refine W.widen w1 w2 ?_
  obtain ⟨v0, l0, q0⟩ := zlv S2.1 (i := 0) (a := .inr (.inr (.inl 94))) rfl
  obtain ⟨aM, ha, rfl⟩ := q0
  have hlv : lv_has ls' 2 [(0, .ref aM)] := by
    obtain ⟨lv, s1, -⟩ := S2.1
    refine ⟨s1.1, s1.2.1, fun y hy => ?_⟩
    simp only [List.mem_cons, List.not_mem_nil, or_false] at hy
    subst hy
    exact l0
  have hw10 : zwr vwCl tys o zyh2133 ws' := ⟨S2.2.2.1.1, S2.2.2.1.2⟩
  have hcg10 : zcg zym112 ws0 ws' := S2.2.2.2.2.2.2
  have mrg : ∀ ws2, zcg zmX ws' ws2 → zwr vwCl tys o (zuW 0) ws2 → zwr vwCl tys o (zySm.1, zySm.2.1, Nat.lor zym112 zmX) ws2 ∧ zcg (Nat.lor zym112 zmX) ws0 ws2 := by
    intro ws2 h1 h2
    have h3 : zwr vwCl tys o (zuW zmX) ws2 := ⟨h2.1, h2.2⟩
    have h4 := zmH_ok zyS_r hw10 h3 h1
    exact ⟨⟨h4.1, h4.2⟩, zcg_tr hcg10 h1⟩
  refine zsm10 E C (zhl_ok zyS_h hw10) S2.2.2.2.1 S2.2.2.2.2.1 S2.2.2.2.2.2.1 ha hlv (fun ws2 H2 locs2 ls2 h1 h2 h3 h4 h5 h6 h7 => ?_) (fun xv ws2 H2 locs2 ls2 h1 h2 h3 h4 h5 h6 h7 => ?_)
  · obtain ⟨g1, g2⟩ := mrg ws2 h1 h2
    exact zrunw_ok (o := o) (zovW_ok (hds o.2.2)) zXX_ok (zprog2_ok E) 100000 p e zSmR s m args below meth c0 Q ws0 2 cX8_smoothest (some .int) k2X8_smoothest (zc2 (ok2X8_smoothest (o := o) E) p e zSmR s m args below meth c0 Q ws0 rfl rfl C) 250 30000 (by decide) (by decide) zySk hrt zcut0 (fun _ _ h => by cases h) 20 zyS20 zyS_20 o.2.2 (fun _ _ => rfl) ls2 [] H2 locs2 ws2 ⟨⟨_, h7, ⟨rfl, ⟨aM, h6, rfl⟩⟩, trivial⟩, trivial, g1, h3, h4, h5, g2⟩
  · obtain ⟨g1, g2⟩ := mrg ws2 h1 h2
    exact zrunw_ok (o := o) (zovW_ok (hds o.2.2)) zXX_ok (zprog2_ok E) 100000 p e zSmR s m args below meth c0 Q ws0 2 cX8_smoothest (some .int) k2X8_smoothest (zc2 (ok2X8_smoothest (o := o) E) p e zSmR s m args below meth c0 Q ws0 rfl rfl C) 250 30000 (by decide) (by decide) zySk hrt zcut0 (fun _ _ h => by cases h) 61 zyS61 zyS_61 o.2.2 (fun _ _ => rfl) ls2 [] H2 locs2 ws2 ⟨⟨_, h7, ⟨rfl, ⟨xv, rfl, ⟨(z32 xv).1, (z32 xv).2⟩, trivial⟩⟩, ⟨rfl, ⟨aM, h6, rfl⟩⟩, trivial⟩, trivial, g1, h3, h4, h5, g2⟩
