set_option maxRecDepth 100000 in
theorem ms_ok : meths.all meOk = true := by decide +kernel
set_option maxRecDepth 100000 in
theorem tbLaw_ok : tbOk code 13 tbLaw = true := by decide +kernel
set_option maxRecDepth 100000 in
theorem fields_ok : (List.range 13).all (fun ci => (List.range (clN ci)).all fun k => decide (lw_tbl[(fWs.getD ci []).getD k 0]? = some (u_lay (ownN ci) (clT ci) k)) && (decide (parseFieldDescriptor (clT ci k).2.2.1 = some (clY ci k)) && (List.range (clN ci)).all fun j => decide (j = k) || !decide ((clT ci j).2.1 = (clT ci k).2.1))) = true := by decide +kernel
set_option maxRecDepth 100000 in
theorem inst_ok : (List.range 13).all (fun ci => decide (lw_tbl[fIs.getD ci 0]? = some (.instantiable (ownN ci) (clN ci)))) = true := by decide +kernel
