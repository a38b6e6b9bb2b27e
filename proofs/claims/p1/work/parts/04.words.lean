def meOk1 (q : ME) : Bool :=
  decide (lw_tbl[(mWs q).1]? = some (.code (mNm q) (mBy q) (mMl q) (mRt q))) && (decide (lw_tbl[(mWs q).2.1]? = some (.initialized (mNm q).cls)) &&
  ((if mKd q = 2 then decide (lw_tbl[(mWs q).2.2.1]? = some (.static (mNm q))) else decide (lw_tbl[(mWs q).2.2.1]? = some (.instanceMethod (mNm q)))) &&
  ((if mKd q = 0 then decide (lw_tbl[(mWs q).2.2.2]? = some (.selects (mNm q).cls (mNm q) (mNm q))) else true) &&
  ((if mKd q = 1 then decide ((mNm q).name = "<init>") && decide (mRt q = none) else true) &&
  (decide ((mNm q).cls ≠ "java/lang/invoke/MethodHandle") && (decide ((mNm q).cls ≠ "java/lang/invoke/VarHandle") && (decide ((parseMethodDescriptor (mNm q).desc).map (fun d => d.parameters.length) = some (mNa q)) &&
  (decide (mMl q ≤ 80) && (plainName (mNm q).cls && decide (ownN (mOw q) = (mNm q).cls))))))))))
set_option maxRecDepth 100000 in
theorem ms_1 : meths.all meOk1 = true := sorry
set_option maxRecDepth 100000 in
theorem fields_ok : (List.range 13).all (fun ci => (List.range (clN ci)).all fun k => decide (lw_tbl[(fWs.getD ci []).getD k 0]? = some (u_lay (ownN ci) (clT ci) k)) && (decide (parseFieldDescriptor (clT ci k).2.2.1 = some (clY ci k)) && (List.range (clN ci)).all fun j => decide (j = k) || !decide ((clT ci j).2.1 = (clT ci k).2.1))) = true := by decide +kernel
set_option maxRecDepth 100000 in
theorem inst_ok : (List.range 13).all (fun ci => decide (lw_tbl[fIs.getD ci 0]? = some (.instantiable (ownN ci) (clN ci)))) = true := by decide +kernel
