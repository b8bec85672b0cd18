set_option maxRecDepth 1000000 in
theorem ok_Joiner_init : xa_okT xa_ms m_Joiner_init = true := by decide +kernel
set_option maxRecDepth 1000000 in
theorem ok_Joiner_combine : xa_okT xa_ms m_Joiner_combine = true := by decide +kernel
set_option maxRecDepth 1000000 in
theorem ok_Joiner_dropClashes : xa_okT xa_ms m_Joiner_dropClashes = true := by decide +kernel
set_option maxRecDepth 1000000 in
theorem ok_Joiner_dropSome : xa_okT xa_ms m_Joiner_dropSome = true := by decide +kernel
set_option maxRecDepth 1000000 in
theorem ok_Joiner_clashes : xa_okT xa_ms m_Joiner_clashes = true := by decide +kernel
set_option maxRecDepth 1000000 in
theorem ok_Joiner_spread : xa_okT xa_ms m_Joiner_spread = true := by decide +kernel
set_option maxRecDepth 1000000 in
theorem ok_Joiner_arrowOf : xa_okT xa_ms m_Joiner_arrowOf = true := by decide +kernel
set_option maxRecDepth 1000000 in
theorem ok_Joiner_numberOf : xa_okT xa_ms m_Joiner_numberOf = true := by decide +kernel
set_option maxRecDepth 1000000 in
theorem ok_Pairs_init : xa_okT xa_ms m_Pairs_init = true := by decide +kernel
set_option maxRecDepth 1000000 in
theorem ok_Pairs_fill : xa_okT xa_ms m_Pairs_fill = true := by decide +kernel
set_option maxRecDepth 1000000 in
theorem ok_Pairs_has : xa_okT xa_ms m_Pairs_has = true := by decide +kernel
set_option maxRecDepth 1000000 in
theorem ok_Pairs_drop : xa_okT xa_ms m_Pairs_drop = true := by decide +kernel
set_option maxRecDepth 1000000 in
theorem ok_Pairs_leftLacks : xa_okT xa_ms m_Pairs_leftLacks = true := by decide +kernel
set_option maxRecDepth 1000000 in
theorem ok_Pairs_rightLacks : xa_okT xa_ms m_Pairs_rightLacks = true := by decide +kernel
set_option maxRecDepth 1000000 in
theorem ok_Pairs_lacks : xa_okT xa_ms m_Pairs_lacks = true := by decide +kernel
set_option maxRecDepth 1000000 in
theorem ok_Pairs_isPair : xa_okT xa_ms m_Pairs_isPair = true := by decide +kernel
set_option maxRecDepth 1000000 in
theorem ok_Plan_init : xa_okT xa_ms m_Plan_init = true := by decide +kernel
set_option maxRecDepth 1000000 in
theorem ok_Plan_size : xa_okT xa_ms m_Plan_size = true := by decide +kernel
set_option maxRecDepth 1000000 in
theorem ok_Plan_reset : xa_okT xa_ms m_Plan_reset = true := by decide +kernel
set_option maxRecDepth 1000000 in
theorem ok_Plan_resize : xa_okT xa_ms m_Plan_resize = true := by decide +kernel
set_option maxRecDepth 1000000 in
theorem ok_Plan_become : xa_okT xa_ms m_Plan_become = true := by decide +kernel
set_option maxRecDepth 1000000 in
theorem ok_Plan_anyFrom : xa_okT xa_ms m_Plan_anyFrom = true := by decide +kernel
set_option maxRecDepth 1000000 in
theorem ok_Plan_mustFrom : xa_okT xa_ms m_Plan_mustFrom = true := by decide +kernel
set_option maxRecDepth 1000000 in
theorem ok_Plan_at : xa_okT xa_ms m_Plan_at = true := by decide +kernel
set_option maxRecDepth 1000000 in
theorem ok_Plan_lay : xa_okT xa_ms m_Plan_lay = true := by decide +kernel
set_option maxRecDepth 1000000 in
theorem ok_Plan_raise : xa_okT xa_ms m_Plan_raise = true := by decide +kernel
set_option maxRecDepth 1000000 in
theorem ok_Plan_settle : xa_okT xa_ms m_Plan_settle = true := by decide +kernel
set_option maxRecDepth 1000000 in
theorem ok_Plan_musts : xa_okT xa_ms m_Plan_musts = true := by decide +kernel
set_option maxRecDepth 1000000 in
theorem ok_Plan_choices : xa_okT xa_ms m_Plan_choices = true := by decide +kernel
set_option maxRecDepth 1000000 in
theorem ok_Plan_bitsOf : xa_okT xa_ms m_Plan_bitsOf = true := by decide +kernel
set_option maxRecDepth 1000000 in
theorem ok_Plan_isSpot : xa_okT xa_ms m_Plan_isSpot = true := by decide +kernel
set_option maxRecDepth 1000000 in
theorem ok_Reader_init : xa_okT xa_ms m_Reader_init = true := by decide +kernel
set_option maxRecDepth 1000000 in
theorem ok_Reader_readPlan : xa_okT xa_ms m_Reader_readPlan = true := by decide +kernel
set_option maxRecDepth 1000000 in
theorem ok_Reader_readHead : xa_okT xa_ms m_Reader_readHead = true := by decide +kernel
set_option maxRecDepth 1000000 in
theorem ok_Reader_readItem : xa_okT xa_ms m_Reader_readItem = true := by decide +kernel
set_option maxRecDepth 1000000 in
theorem ok_Reader_readSaying : xa_okT xa_ms m_Reader_readSaying = true := by decide +kernel
set_option maxRecDepth 1000000 in
theorem ok_Reader_readBoths : xa_okT xa_ms m_Reader_readBoths = true := by decide +kernel
set_option maxRecDepth 1000000 in
theorem ok_Reader_readBoth : xa_okT xa_ms m_Reader_readBoth = true := by decide +kernel
set_option maxRecDepth 1000000 in
theorem ok_Reader_readUnit : xa_okT xa_ms m_Reader_readUnit = true := by decide +kernel
set_option maxRecDepth 1000000 in
theorem ok_Reader_readBit : xa_okT xa_ms m_Reader_readBit = true := by decide +kernel
set_option maxRecDepth 1000000 in
theorem ok_Reader_readNot : xa_okT xa_ms m_Reader_readNot = true := by decide +kernel
set_option maxRecDepth 1000000 in
theorem ok_Reader_readArrow : xa_okT xa_ms m_Reader_readArrow = true := by decide +kernel
set_option maxRecDepth 1000000 in
theorem ok_Rounds_init : xa_okT xa_ms m_Rounds_init = true := by decide +kernel
set_option maxRecDepth 1000000 in
theorem ok_Rounds_play : xa_okT xa_ms m_Rounds_play = true := by decide +kernel
set_option maxRecDepth 1000000 in
theorem ok_Rounds_roundOf : xa_okT xa_ms m_Rounds_roundOf = true := by decide +kernel
set_option maxRecDepth 1000000 in
theorem ok_Rounds_areOne : xa_okT xa_ms m_Rounds_areOne = true := by decide +kernel
set_option maxRecDepth 1000000 in
theorem ok_Rounds_whyLetter : xa_okT xa_ms m_Rounds_whyLetter = true := by decide +kernel
set_option maxRecDepth 1000000 in
theorem ok_Rounds_whySide : xa_okT xa_ms m_Rounds_whySide = true := by decide +kernel
set_option maxRecDepth 1000000 in
theorem ok_Rounds_playOne : xa_okT xa_ms m_Rounds_playOne = true := by decide +kernel
