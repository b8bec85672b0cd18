set_option maxRecDepth 1000000 in
theorem ok_Walker_step : xa_okT xa_ms m_Walker_step = true := by decide +kernel
set_option maxRecDepth 1000000 in
theorem ok_Walker_mayCome : xa_okT xa_ms m_Walker_mayCome = true := by decide +kernel
set_option maxRecDepth 1000000 in
theorem ok_Walker_mustBeThere : xa_okT xa_ms m_Walker_mustBeThere = true := by decide +kernel
set_option maxRecDepth 1000000 in
theorem ok_Walker_nextBy : xa_okT xa_ms m_Walker_nextBy = true := by decide +kernel
set_option maxRecDepth 1000000 in
theorem ok_Walker_isInAll : xa_okT xa_ms m_Walker_isInAll = true := by decide +kernel
set_option maxRecDepth 1000000 in
theorem ok_MM_init : xa_okT xa_ms m_MM_init = true := by decide +kernel
set_option maxRecDepth 1000000 in
theorem ok_MM_type : xa_okT xa_ms m_MM_type = true := by decide +kernel
set_option maxRecDepth 1000000 in
theorem ok_MM_clear : xa_okT xa_ms m_MM_clear = true := by decide +kernel
set_option maxRecDepth 1000000 in
theorem ok_MM_plan : xa_okT xa_ms m_MM_plan = true := by decide +kernel
set_option maxRecDepth 1000000 in
theorem ok_MM_say : xa_okT xa_ms m_MM_say = true := by decide +kernel
set_option maxRecDepth 1000000 in
theorem ok_MM_states : xa_okT xa_ms m_MM_states = true := by decide +kernel
set_option maxRecDepth 1000000 in
theorem ok_MM_arrow : xa_okT xa_ms m_MM_arrow = true := by decide +kernel
set_option maxRecDepth 1000000 in
theorem ok_MM_put : xa_okT xa_ms m_MM_put = true := by decide +kernel
set_option maxRecDepth 1000000 in
theorem ok_MM_stricter : xa_okT xa_ms m_MM_stricter = true := by decide +kernel
set_option maxRecDepth 1000000 in
theorem ok_MM_stays : xa_okT xa_ms m_MM_stays = true := by decide +kernel
set_option maxRecDepth 1000000 in
theorem ok_MM_alike : xa_okT xa_ms m_MM_alike = true := by decide +kernel
set_option maxRecDepth 1000000 in
theorem ok_MM_make : xa_okT xa_ms m_MM_make = true := by decide +kernel
set_option maxRecDepth 1000000 in
theorem ok_MM_join : xa_okT xa_ms m_MM_join = true := by decide +kernel
set_option maxRecDepth 1000000 in
theorem ok_MM_value : xa_okT xa_ms m_MM_value = true := by decide +kernel
set_option maxRecDepth 1000000 in
theorem ok_MM_how : xa_okT xa_ms m_MM_how = true := by decide +kernel
set_option maxRecDepth 1000000 in
theorem ok_MM_begin : xa_okT xa_ms m_MM_begin = true := by decide +kernel
set_option maxRecDepth 1000000 in
theorem ok_MM_go : xa_okT xa_ms m_MM_go = true := by decide +kernel
set_option maxRecDepth 1000000 in
theorem ok_MM_walk : xa_okT xa_ms m_MM_walk = true := by decide +kernel
set_option maxRecDepth 1000000 in
theorem ok_MM_count : xa_okT xa_ms m_MM_count = true := by decide +kernel
set_option maxRecDepth 1000000 in
theorem ok_MM_noPlan : xa_okT xa_ms m_MM_noPlan = true := by decide +kernel
set_option maxRecDepth 1000000 in
theorem ok_MM_noLetter : xa_okT xa_ms m_MM_noLetter = true := by decide +kernel
set_option maxRecDepth 1000000 in
theorem ok_MM_noState : xa_okT xa_ms m_MM_noState = true := by decide +kernel
set_option maxRecDepth 1000000 in
theorem ok_MM_noArrow : xa_okT xa_ms m_MM_noArrow = true := by decide +kernel
set_option maxRecDepth 1000000 in
theorem ok_MM_statesOfAll : xa_okT xa_ms m_MM_statesOfAll = true := by decide +kernel
set_option maxRecDepth 1000000 in
theorem ok_MM_inSet : xa_okT xa_ms m_MM_inSet = true := by decide +kernel
set_option maxRecDepth 1000000 in
theorem ok_Mo_init : xa_okT xa_ms m_Mo_init = true := by decide +kernel
set_option maxRecDepth 1000000 in
theorem ok_Mo_in : xa_okT xa_ms m_Mo_in = true := by decide +kernel
set_option maxRecDepth 1000000 in
theorem ok_Mo_isPlan : xa_okT xa_ms m_Mo_isPlan = true := by decide +kernel
set_option maxRecDepth 1000000 in
theorem ok_Mo_isState : xa_okT xa_ms m_Mo_isState = true := by decide +kernel
set_option maxRecDepth 1000000 in
theorem ok_Mo_at : xa_okT xa_ms m_Mo_at = true := by decide +kernel
set_option maxRecDepth 1000000 in
theorem ok_Mo_of : xa_okT xa_ms m_Mo_of = true := by decide +kernel
set_option maxRecDepth 1000000 in
theorem ok_Mo_empties : xa_okT xa_ms m_Mo_empties = true := by decide +kernel
set_option maxRecDepth 1000000 in
theorem ok_Mo_copies : xa_okT xa_ms m_Mo_copies = true := by decide +kernel
set_option maxRecDepth 1000000 in
theorem ok_Mo_type : xa_okT xa_ms m_Mo_type = true := by decide +kernel
set_option maxRecDepth 1000000 in
theorem ok_Mo_clear : xa_okT xa_ms m_Mo_clear = true := by decide +kernel
set_option maxRecDepth 1000000 in
theorem ok_Mo_byteAt : xa_okT xa_ms m_Mo_byteAt = true := by decide +kernel
set_option maxRecDepth 1000000 in
theorem ok_Mo_isWord : xa_okT xa_ms m_Mo_isWord = true := by decide +kernel
set_option maxRecDepth 1000000 in
theorem ok_Mo_words : xa_okT xa_ms m_Mo_words = true := by decide +kernel
set_option maxRecDepth 1000000 in
theorem ok_Mo_advances : xa_okT xa_ms m_Mo_advances = true := by decide +kernel
set_option maxRecDepth 1000000 in
theorem ok_Mo_isWell : xa_okT xa_ms m_Mo_isWell = true := by decide +kernel
set_option maxRecDepth 1000000 in
theorem ok_Mo_takes : xa_okT xa_ms m_Mo_takes = true := by decide +kernel
set_option maxRecDepth 1000000 in
theorem ok_Mo_isSign : xa_okT xa_ms m_Mo_isSign = true := by decide +kernel
set_option maxRecDepth 1000000 in
theorem ok_Mo_begins : xa_okT xa_ms m_Mo_begins = true := by decide +kernel
set_option maxRecDepth 1000000 in
theorem ok_Mo_plan : xa_okT xa_ms m_Mo_plan = true := by decide +kernel
